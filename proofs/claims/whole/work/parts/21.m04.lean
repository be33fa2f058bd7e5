def rm_M_SpillQueueModel_mergeAll : Room := { frames := 6, cells := 0, slots := 0, locals := 138 }
def wl_M_SpillQueueModel_mergeAll_4 (Q : Int32 → gS → Prop) (K : Int32 → Int32 → gS → Prop) : Nat → Int32 → Int32 → gS → Prop
  | 0, _, _, _ => False
  | n + 1, x1, x2, s => (((s.1 12) ≤ x2 → K x1 x2 s) ∧ (¬ (s.1 12) ≤ x2 → vp_in x2 16 ∧ ((((s.2 5 x2.toNatClampNeg) ≤ x1 → ∀ v4 : Int32, v4 = x2 + 1 → wl_M_SpillQueueModel_mergeAll_4 Q K n x1 v4 s) ∧ (¬ (s.2 5 x2.toNatClampNeg) ≤ x1 → vp_in x2 16 ∧ (∀ v6 : Int32, v6 = s.2 5 x2.toNatClampNeg → ∀ v7 : Int32, v7 = x2 + 1 → wl_M_SpillQueueModel_mergeAll_4 Q K n v6 v7 s))))))
set_option maxHeartbeats 4000000 in
set_option maxRecDepth 100000 in
theorem w_M_SpillQueueModel_mergeAll_4 (X : gX) (ad : Nat → Nat) (Q : Int32 → gS → Prop) (K : Int32 → Int32 → gS → Prop) (E : gE) (C : gC X E b_MO_mergeAll 3 R_MO) (hRm : gRm E = rm_M_SpillQueueModel_mergeAll) (r : gR X E b_MO_mergeAll (some .boolean) (gBi (wM ad X) Q)) (hK : ∀ (x1 : Int32) (x2 : Int32) (s : gS), K x1 x2 s → gW X E 0 0 (wM ad X s) [(0, .ref (ad 0)), (1, .int x1), (2, .int x2)] 39 []) : ∀ (n : Nat) (x1 : Int32) (x2 : Int32) (s : gS), wl_M_SpillQueueModel_mergeAll_4 Q K n x1 x2 s → gW X E 0 0 (wM ad X s) [(0, .ref (ad 0)), (1, .int x1), (2, .int x2)] 4 [] := by
  intro n
  induction n with
  | zero => intro x1 x2 s h; exact False.elim h
  | succ n ih =>
    intro x1 x2 s h
    have h : (((s.1 12) ≤ x2 → K x1 x2 s) ∧ (¬ (s.1 12) ≤ x2 → vp_in x2 16 ∧ ((((s.2 5 x2.toNatClampNeg) ≤ x1 → ∀ v4 : Int32, v4 = x2 + 1 → wl_M_SpillQueueModel_mergeAll_4 Q K n x1 v4 s) ∧ (¬ (s.2 5 x2.toNatClampNeg) ≤ x1 → vp_in x2 16 ∧ (∀ v6 : Int32, v6 = s.2 5 x2.toNatClampNeg → ∀ v7 : Int32, v7 = x2 + 1 → wl_M_SpillQueueModel_mergeAll_4 Q K n v6 v7 s)))))) := h
    refine g_iload_n C d_MO_mergeAll_4 rfl 2 rfl ?_
    refine g_aload_n C d_MO_mergeAll_5 rfl 0 rfl ?_
    refine g_get C (v := .int (s.1 12)) 0 14 iw_MO rfl rfl (by decide) (gt 745 (by decide +kernel) rfl) rfl rfl d_MO_mergeAll_6 ?_
    refine g_icmp_ge C 39 d_MO_mergeAll_9 (by decide) (fun c1 => ?_) (fun c1 => ?_)
    · have h := h.1 c1
      exact hK x1 x2 s h
    · have h := h.2 c1
      refine g_aload_n C d_MO_mergeAll_12 rfl 0 rfl ?_
      refine g_get C (v := .ref (ad 6)) 0 18 iw_MO rfl rfl (by decide) (gt 749 (by decide +kernel) rfl) rfl rfl d_MO_mergeAll_13 ?_
      refine g_iload_n C d_MO_mergeAll_16 rfl 2 rfl ?_
      obtain ⟨i2, h⟩ := h
      refine g_iald C 6 0 rfl rfl i2 d_MO_mergeAll_17 ?_
      refine g_iload_n C d_MO_mergeAll_18 rfl 1 rfl ?_
      refine g_icmp_le C 31 d_MO_mergeAll_19 (by decide) (fun c3 => ?_) (fun c3 => ?_)
      · have h := h.1 c3
        refine g_iload_n C d_MO_mergeAll_31 rfl 1 rfl ?_
        refine g_istore_n C (lv2 := [(0, .ref (ad 0)), (1, .int x1), (2, .int x2)]) d_MO_mergeAll_32 rfl (by decide) rfl ?_
        obtain ⟨v4, e_v4⟩ : ∃ y : Int32, y = x2 + 1 := ⟨_, rfl⟩
        have h := h v4 e_v4
        refine g_iinc C (v := v4) (lv2 := [(0, .ref (ad 0)), (1, .int x1), (2, .int v4)]) d_MO_mergeAll_33 2 rfl (by rw [e_v4]; rfl) (by decide) rfl ?_
        refine g_goto C 4 d_MO_mergeAll_36 (by decide) ?_
        exact ih x1 v4 s h
      · have h := h.2 c3
        refine g_aload_n C d_MO_mergeAll_22 rfl 0 rfl ?_
        refine g_get C (v := .ref (ad 6)) 0 18 iw_MO rfl rfl (by decide) (gt 749 (by decide +kernel) rfl) rfl rfl d_MO_mergeAll_23 ?_
        refine g_iload_n C d_MO_mergeAll_26 rfl 2 rfl ?_
        obtain ⟨i5, h⟩ := h
        refine g_iald C 6 0 rfl rfl i5 d_MO_mergeAll_27 ?_
        refine g_goto C 32 d_MO_mergeAll_28 (by decide) ?_
        refine g_topi (fun v6 e_v6 => ?_)
        have h := h v6 e_v6
        refine g_istore_n C (lv2 := [(0, .ref (ad 0)), (1, .int v6), (2, .int x2)]) d_MO_mergeAll_32 rfl (by decide) rfl ?_
        obtain ⟨v7, e_v7⟩ : ∃ y : Int32, y = x2 + 1 := ⟨_, rfl⟩
        have h := h v7 e_v7
        refine g_iinc C (v := v7) (lv2 := [(0, .ref (ad 0)), (1, .int v6), (2, .int v7)]) d_MO_mergeAll_33 2 rfl (by rw [e_v7]; rfl) (by decide) rfl ?_
        refine g_goto C 4 d_MO_mergeAll_36 (by decide) ?_
        exact ih v6 v7 s h
def wp_M_SpillQueueModel_mergeAll (s : gS) (Q : Int32 → gS → Prop) : Prop := ∃ n8 : Nat, wl_M_SpillQueueModel_mergeAll_4 Q (fun v10 v11 s9 => wp_M_SpillQueueModel_merge 1 0 (v10 + 1) s9 (fun r13 s12 => narrow .boolean (.int r13) = .int r13 ∧ (Q r13 s12)))  n8 0 0 s
set_option maxHeartbeats 4000000 in
set_option maxRecDepth 100000 in
theorem w_M_SpillQueueModel_mergeAll (X : gX) (ad : Nat → Nat) (s : gS) (Q : Int32 → gS → Prop) (h : wp_M_SpillQueueModel_mergeAll  s Q) (E : gE) (C : gC X E b_MO_mergeAll 3 R_MO) (hRm : gRm E = rm_M_SpillQueueModel_mergeAll) (r : gR X E b_MO_mergeAll (some .boolean) (gBi (wM ad X) Q)) : gW X E 0 0 (wM ad X s) [(0, .ref (ad 0))] 0 [] := by
  have h : ∃ n8 : Nat, wl_M_SpillQueueModel_mergeAll_4 Q (fun v10 v11 s9 => wp_M_SpillQueueModel_merge 1 0 (v10 + 1) s9 (fun r13 s12 => narrow .boolean (.int r13) = .int r13 ∧ (Q r13 s12)))  n8 0 0 s := h
  refine g_iconst C 0 d_MO_mergeAll_0 (by decide) ?_
  refine g_istore_n C (lv2 := [(0, .ref (ad 0)), (1, .int 0)]) d_MO_mergeAll_1 rfl (by decide) rfl ?_
  refine g_iconst C 0 d_MO_mergeAll_2 (by decide) ?_
  refine g_istore_n C (lv2 := [(0, .ref (ad 0)), (1, .int 0), (2, .int 0)]) d_MO_mergeAll_3 rfl (by decide) rfl ?_
  obtain ⟨n8, h⟩ := h
  refine w_M_SpillQueueModel_mergeAll_4 X ad Q (_)  E C hRm r ?_ n8 0 0 s h
  intro v10 v11 s9 h
  refine g_aload_n C d_MO_mergeAll_39 rfl 0 rfl ?_
  refine g_iconst C 1 d_MO_mergeAll_40 (by decide) ?_
  refine g_iconst C 0 d_MO_mergeAll_41 (by decide) ?_
  refine g_iload_n C d_MO_mergeAll_42 rfl 1 rfl ?_
  refine g_iconst C 1 d_MO_mergeAll_43 (by decide) ?_
  refine g_iadd C d_MO_mergeAll_44 ?_
  refine g_callV C (rest := []) 0 (fun l => m_M_SpillQueueModel_merge X ad 1 0 (v10 + 1) s9 _ h l) rfl rfl (gt 872 (by decide +kernel) rfl) cb_MO_merge ⟨rfl, rfl⟩ (by rw [hRm]; decide) ⟨Nat.zero_le _, Nat.zero_le _⟩ rfl rfl (Nat.le_of_ble_eq_true rfl) d_MO_mergeAll_45 (gki (fun r13 s12 h => ?_))
  obtain ⟨b14, h⟩ := h
  exact g_iret r b14 d_MO_mergeAll_48 (gBi_mk h)
theorem m_M_SpillQueueModel_mergeAll (X : gX) (ad : Nat → Nat) (s : gS) (Q : Int32 → gS → Prop) (h : wp_M_SpillQueueModel_mergeAll  s Q) (l : Launch) : gM l X y_MO_mergeAll b_MO_mergeAll 3 (some .boolean) rm_M_SpillQueueModel_mergeAll [.ref (ad 0)] (wM ad X s) (gBi (wM ad X) Q) :=
  gM_of (by decide +kernel) rfl (Nat.le_of_ble_eq_true rfl) rfl (fun E C hRm r => w_M_SpillQueueModel_mergeAll X ad  s Q h E C hRm r)
def rm_M_SpillQueueModel_spill : Room := { frames := 7, cells := 0, slots := 0, locals := 160 }
def wl_M_SpillQueueModel_spill_75 (Q : Int32 → gS → Prop) (K : Int32 → gS → Prop) (x1 : Int32) : Nat → Int32 → gS → Prop
  | 0, _, _ => False
  | n + 1, x2, s => ((x2 = 0 → K x2 s) ∧ (¬ x2 = 0 → wp_M_SpillQueueModel_crowded s (fun r17 s16 => ((r17 < 0 → wl_M_SpillQueueModel_spill_75 Q K x1 n 0 s16) ∧ (¬ r17 < 0 → vp_in r17 16 ∧ (vp_in r17 16 ∧ (wp_M_SpillQueueModel_merge 0 (s16.2 5 r17.toNatClampNeg) ((s16.2 5 r17.toNatClampNeg) + 1) s16 (fun r22 s21 => ((r22 = 0 → wl_M_SpillQueueModel_spill_75 Q K x1 n 0 s21) ∧ (¬ r22 = 0 → ((¬ (s21.1 9) = 0 → wl_M_SpillQueueModel_spill_75 Q K x1 n 0 s21) ∧ ((s21.1 9) = 0 → wl_M_SpillQueueModel_spill_75 Q K x1 n 1 s21))))))))))))
set_option maxHeartbeats 4000000 in
set_option maxRecDepth 100000 in
theorem w_M_SpillQueueModel_spill_75 (X : gX) (ad : Nat → Nat) (Q : Int32 → gS → Prop) (K : Int32 → gS → Prop) (x1 : Int32) (E : gE) (C : gC X E b_MO_spill 4 R_MO) (hRm : gRm E = rm_M_SpillQueueModel_spill) (r : gR X E b_MO_spill (some .boolean) (gBi (wM ad X) Q)) (hK : ∀ (x2 : Int32) (s : gS), K x2 s → gW X E 0 0 (wM ad X s) [(0, .ref (ad 0)), (1, .int x1), (2, .int x2)] 126 []) : ∀ (n : Nat) (x2 : Int32) (s : gS), wl_M_SpillQueueModel_spill_75 Q K x1 n x2 s → gW X E 0 0 (wM ad X s) [(0, .ref (ad 0)), (1, .int x1), (2, .int x2)] 75 [] := by
  intro n
  induction n with
  | zero => intro x2 s h; exact False.elim h
  | succ n ih =>
    intro x2 s h
    have h : ((x2 = 0 → K x2 s) ∧ (¬ x2 = 0 → wp_M_SpillQueueModel_crowded s (fun r17 s16 => ((r17 < 0 → wl_M_SpillQueueModel_spill_75 Q K x1 n 0 s16) ∧ (¬ r17 < 0 → vp_in r17 16 ∧ (vp_in r17 16 ∧ (wp_M_SpillQueueModel_merge 0 (s16.2 5 r17.toNatClampNeg) ((s16.2 5 r17.toNatClampNeg) + 1) s16 (fun r22 s21 => ((r22 = 0 → wl_M_SpillQueueModel_spill_75 Q K x1 n 0 s21) ∧ (¬ r22 = 0 → ((¬ (s21.1 9) = 0 → wl_M_SpillQueueModel_spill_75 Q K x1 n 0 s21) ∧ ((s21.1 9) = 0 → wl_M_SpillQueueModel_spill_75 Q K x1 n 1 s21)))))))))))) := h
    refine g_iload_n C d_MO_spill_75 rfl 2 rfl ?_
    refine g_if_eq C 126 d_MO_spill_76 (by decide) (fun c15 => ?_) (fun c15 => ?_)
    · have h := h.1 c15
      exact hK x2 s h
    · have h := h.2 c15
      refine g_aload_n C d_MO_spill_79 rfl 0 rfl ?_
      refine g_callV C (rest := []) 0 (fun l => m_M_SpillQueueModel_crowded X ad  s _ h l) rfl rfl (gt 912 (by decide +kernel) rfl) cb_MO_crowded ⟨rfl, rfl⟩ (by rw [hRm]; decide) ⟨Nat.zero_le _, Nat.zero_le _⟩ rfl rfl (Nat.le_of_ble_eq_true rfl) d_MO_spill_80 (gki (fun r17 s16 h => ?_))
      refine g_istore_n C (lv2 := [(0, .ref (ad 0)), (1, .int x1), (2, .int x2), (3, .int r17)]) d_MO_spill_83 rfl (by decide) rfl ?_
      refine g_iload_n C d_MO_spill_84 rfl 3 rfl ?_
      refine g_if_lt C 121 d_MO_spill_85 (by decide) (fun c18 => ?_) (fun c18 => ?_)
      · have h := h.1 c18
        refine g_iconst C 0 d_MO_spill_121 (by decide) ?_
        refine g_istore_n C (lv2 := [(0, .ref (ad 0)), (1, .int x1), (2, .int 0), (3, .int r17)]) d_MO_spill_122 rfl (by decide) rfl ?_
        refine g_goto C 75 d_MO_spill_123 (by decide) ?_
        refine g_lv C [0, 1, 2] rfl ?_
        exact ih 0 s16 h
      · have h := h.2 c18
        refine g_aload_n C d_MO_spill_88 rfl 0 rfl ?_
        refine g_iconst C 0 d_MO_spill_89 (by decide) ?_
        refine g_aload_n C d_MO_spill_90 rfl 0 rfl ?_
        refine g_get C (v := .ref (ad 6)) 0 18 iw_MO rfl rfl (by decide) (gt 749 (by decide +kernel) rfl) rfl rfl d_MO_spill_91 ?_
        refine g_iload_n C d_MO_spill_94 rfl 3 rfl ?_
        obtain ⟨i19, h⟩ := h
        refine g_iald C 6 0 rfl rfl i19 d_MO_spill_95 ?_
        refine g_aload_n C d_MO_spill_96 rfl 0 rfl ?_
        refine g_get C (v := .ref (ad 6)) 0 18 iw_MO rfl rfl (by decide) (gt 749 (by decide +kernel) rfl) rfl rfl d_MO_spill_97 ?_
        refine g_iload_n C d_MO_spill_100 rfl 3 rfl ?_
        obtain ⟨i20, h⟩ := h
        refine g_iald C 6 0 rfl rfl i20 d_MO_spill_101 ?_
        refine g_iconst C 1 d_MO_spill_102 (by decide) ?_
        refine g_iadd C d_MO_spill_103 ?_
        refine g_callV C (rest := []) 0 (fun l => m_M_SpillQueueModel_merge X ad 0 (s16.2 5 r17.toNatClampNeg) ((s16.2 5 r17.toNatClampNeg) + 1) s16 _ h l) rfl rfl (gt 872 (by decide +kernel) rfl) cb_MO_merge ⟨rfl, rfl⟩ (by rw [hRm]; decide) ⟨Nat.zero_le _, Nat.zero_le _⟩ rfl rfl (Nat.le_of_ble_eq_true rfl) d_MO_spill_104 (gki (fun r22 s21 h => ?_))
        refine g_if_eq C 121 d_MO_spill_107 (by decide) (fun c23 => ?_) (fun c23 => ?_)
        · have h := h.1 c23
          refine g_iconst C 0 d_MO_spill_121 (by decide) ?_
          refine g_istore_n C (lv2 := [(0, .ref (ad 0)), (1, .int x1), (2, .int 0), (3, .int r17)]) d_MO_spill_122 rfl (by decide) rfl ?_
          refine g_goto C 75 d_MO_spill_123 (by decide) ?_
          refine g_lv C [0, 1, 2] rfl ?_
          exact ih 0 s21 h
        · have h := h.2 c23
          refine g_aload_n C d_MO_spill_110 rfl 0 rfl ?_
          refine g_get C (v := .int (s21.1 9)) 0 10 iw_MO rfl rfl (by decide) (gt 741 (by decide +kernel) rfl) rfl rfl d_MO_spill_111 ?_
          refine g_if_ne C 121 d_MO_spill_114 (by decide) (fun c24 => ?_) (fun c24 => ?_)
          · have h := h.1 c24
            refine g_iconst C 0 d_MO_spill_121 (by decide) ?_
            refine g_istore_n C (lv2 := [(0, .ref (ad 0)), (1, .int x1), (2, .int 0), (3, .int r17)]) d_MO_spill_122 rfl (by decide) rfl ?_
            refine g_goto C 75 d_MO_spill_123 (by decide) ?_
            refine g_lv C [0, 1, 2] rfl ?_
            exact ih 0 s21 h
          · have h := h.2 c24
            refine g_iconst C 1 d_MO_spill_117 (by decide) ?_
            refine g_goto C 122 d_MO_spill_118 (by decide) ?_
            refine g_istore_n C (lv2 := [(0, .ref (ad 0)), (1, .int x1), (2, .int 1), (3, .int r17)]) d_MO_spill_122 rfl (by decide) rfl ?_
            refine g_goto C 75 d_MO_spill_123 (by decide) ?_
            refine g_lv C [0, 1, 2] rfl ?_
            exact ih 1 s21 h
def wp_M_SpillQueueModel_spill (s : gS) (Q : Int32 → gS → Prop) : Prop := wp_M_SpillQueueModel_most s (fun r2 s1 => ((¬ (s.1 12) = r2 → (((s1.1 9) = 0 → ∀ v5 : Int32, v5 = s1.1 10 → wp_M_SpillQueueModel_choose v5 s1 (fun r7 s6 => ((¬ r7 = 0 → wp_M_SpillQueueModel_writeKeys v5 1 s6 (fun s9 => vp_in 0 200 ∧ (wp_M_SpillQueueModel_addRun (s9.2 9 (0 : Int32).toNatClampNeg) v5 0 s9 (fun s12 => ((¬ (s12.1 9) = 0 → ∃ n25 : Nat, wl_M_SpillQueueModel_spill_75 Q (fun v27 s26 => Q 1 s26) v5 n25 0 s12) ∧ ((s12.1 9) = 0 → ∃ n28 : Nat, wl_M_SpillQueueModel_spill_75 Q (fun v30 s29 => Q 1 s29) v5 n28 1 s12)))))) ∧ (r7 = 0 → Q 0 s6)))) ∧ (¬ (s1.1 9) = 0 → Q 1 s1))) ∧ ((s.1 12) = r2 → wp_M_SpillQueueModel_mergeAll s1 (fun r32 s31 => ((¬ r32 = 0 → (((s31.1 9) = 0 → ∀ v35 : Int32, v35 = s31.1 10 → wp_M_SpillQueueModel_choose v35 s31 (fun r37 s36 => ((¬ r37 = 0 → wp_M_SpillQueueModel_writeKeys v35 1 s36 (fun s39 => vp_in 0 200 ∧ (wp_M_SpillQueueModel_addRun (s39.2 9 (0 : Int32).toNatClampNeg) v35 0 s39 (fun s42 => ((¬ (s42.1 9) = 0 → ∃ n45 : Nat, wl_M_SpillQueueModel_spill_75 Q (fun v47 s46 => Q 1 s46) v35 n45 0 s42) ∧ ((s42.1 9) = 0 → ∃ n48 : Nat, wl_M_SpillQueueModel_spill_75 Q (fun v50 s49 => Q 1 s49) v35 n48 1 s42)))))) ∧ (r37 = 0 → Q 0 s36)))) ∧ (¬ (s31.1 9) = 0 → Q 1 s31))) ∧ (r32 = 0 → Q 0 s31))))))
set_option maxHeartbeats 4000000 in
set_option maxRecDepth 100000 in
theorem w_M_SpillQueueModel_spill (X : gX) (ad : Nat → Nat) (s : gS) (Q : Int32 → gS → Prop) (h : wp_M_SpillQueueModel_spill  s Q) (E : gE) (C : gC X E b_MO_spill 4 R_MO) (hRm : gRm E = rm_M_SpillQueueModel_spill) (r : gR X E b_MO_spill (some .boolean) (gBi (wM ad X) Q)) : gW X E 0 0 (wM ad X s) [(0, .ref (ad 0))] 0 [] := by
  have h : wp_M_SpillQueueModel_most s (fun r2 s1 => ((¬ (s.1 12) = r2 → (((s1.1 9) = 0 → ∀ v5 : Int32, v5 = s1.1 10 → wp_M_SpillQueueModel_choose v5 s1 (fun r7 s6 => ((¬ r7 = 0 → wp_M_SpillQueueModel_writeKeys v5 1 s6 (fun s9 => vp_in 0 200 ∧ (wp_M_SpillQueueModel_addRun (s9.2 9 (0 : Int32).toNatClampNeg) v5 0 s9 (fun s12 => ((¬ (s12.1 9) = 0 → ∃ n25 : Nat, wl_M_SpillQueueModel_spill_75 Q (fun v27 s26 => Q 1 s26) v5 n25 0 s12) ∧ ((s12.1 9) = 0 → ∃ n28 : Nat, wl_M_SpillQueueModel_spill_75 Q (fun v30 s29 => Q 1 s29) v5 n28 1 s12)))))) ∧ (r7 = 0 → Q 0 s6)))) ∧ (¬ (s1.1 9) = 0 → Q 1 s1))) ∧ ((s.1 12) = r2 → wp_M_SpillQueueModel_mergeAll s1 (fun r32 s31 => ((¬ r32 = 0 → (((s31.1 9) = 0 → ∀ v35 : Int32, v35 = s31.1 10 → wp_M_SpillQueueModel_choose v35 s31 (fun r37 s36 => ((¬ r37 = 0 → wp_M_SpillQueueModel_writeKeys v35 1 s36 (fun s39 => vp_in 0 200 ∧ (wp_M_SpillQueueModel_addRun (s39.2 9 (0 : Int32).toNatClampNeg) v35 0 s39 (fun s42 => ((¬ (s42.1 9) = 0 → ∃ n45 : Nat, wl_M_SpillQueueModel_spill_75 Q (fun v47 s46 => Q 1 s46) v35 n45 0 s42) ∧ ((s42.1 9) = 0 → ∃ n48 : Nat, wl_M_SpillQueueModel_spill_75 Q (fun v50 s49 => Q 1 s49) v35 n48 1 s42)))))) ∧ (r37 = 0 → Q 0 s36)))) ∧ (¬ (s31.1 9) = 0 → Q 1 s31))) ∧ (r32 = 0 → Q 0 s31)))))) := h
  refine g_aload_n C d_MO_spill_0 rfl 0 rfl ?_
  refine g_get C (v := .int (s.1 12)) 0 14 iw_MO rfl rfl (by decide) (gt 745 (by decide +kernel) rfl) rfl rfl d_MO_spill_1 ?_
  refine g_aload_n C d_MO_spill_4 rfl 0 rfl ?_
  refine g_callV C (rest := [.int (s.1 12)]) 0 (fun l => m_M_SpillQueueModel_most X ad  s _ h l) rfl rfl (gt 864 (by decide +kernel) rfl) cb_MO_most ⟨rfl, rfl⟩ (by rw [hRm]; decide) ⟨Nat.zero_le _, Nat.zero_le _⟩ rfl rfl (Nat.le_of_ble_eq_true rfl) d_MO_spill_5 (gki (fun r2 s1 h => ?_))
  refine g_icmp_ne C 20 d_MO_spill_8 (by decide) (fun c3 => ?_) (fun c3 => ?_)
  · have h := h.1 c3
    refine g_aload_n C d_MO_spill_20 rfl 0 rfl ?_
    refine g_get C (v := .int (s1.1 9)) 0 10 iw_MO rfl rfl (by decide) (gt 741 (by decide +kernel) rfl) rfl rfl d_MO_spill_21 ?_
    refine g_if_eq C 29 d_MO_spill_24 (by decide) (fun c4 => ?_) (fun c4 => ?_)
    · have h := h.1 c4
      refine g_aload_n C d_MO_spill_29 rfl 0 rfl ?_
      refine g_get C (v := .int (s1.1 10)) 0 11 iw_MO rfl rfl (by decide) (gt 742 (by decide +kernel) rfl) rfl rfl d_MO_spill_30 ?_
      refine g_topi (fun v5 e_v5 => ?_)
      have h := h v5 e_v5
      refine g_istore_n C (lv2 := [(0, .ref (ad 0)), (1, .int v5)]) d_MO_spill_33 rfl (by decide) rfl ?_
      refine g_aload_n C d_MO_spill_34 rfl 0 rfl ?_
      refine g_iload_n C d_MO_spill_35 rfl 1 rfl ?_
      refine g_callV C (rest := []) 0 (fun l => m_M_SpillQueueModel_choose X ad v5 s1 _ h l) rfl rfl (gt 876 (by decide +kernel) rfl) cb_MO_choose ⟨rfl, rfl⟩ (by rw [hRm]; decide) ⟨Nat.zero_le _, Nat.zero_le _⟩ rfl rfl (Nat.le_of_ble_eq_true rfl) d_MO_spill_36 (gki (fun r7 s6 h => ?_))
      refine g_if_ne C 44 d_MO_spill_39 (by decide) (fun c8 => ?_) (fun c8 => ?_)
      · have h := h.1 c8
        refine g_aload_n C d_MO_spill_44 rfl 0 rfl ?_
        refine g_iload_n C d_MO_spill_45 rfl 1 rfl ?_
        refine g_iconst C 1 d_MO_spill_46 (by decide) ?_
        refine g_callV C (rest := []) 0 (fun l => m_M_SpillQueueModel_writeKeys X ad v5 1 s6 _ h l) rfl rfl (gt 888 (by decide +kernel) rfl) cb_MO_writeKeys ⟨rfl, rfl⟩ (by rw [hRm]; decide) ⟨Nat.zero_le _, Nat.zero_le _⟩ rfl rfl (Nat.le_of_ble_eq_true rfl) d_MO_spill_47 (gkv (fun s9 h => ?_))
        refine g_aload_n C d_MO_spill_50 rfl 0 rfl ?_
        refine g_aload_n C d_MO_spill_51 rfl 0 rfl ?_
        refine g_get C (v := .ref (ad 10)) 0 22 iw_MO rfl rfl (by decide) (gt 753 (by decide +kernel) rfl) rfl rfl d_MO_spill_52 ?_
        refine g_iconst C 0 d_MO_spill_55 (by decide) ?_
        obtain ⟨i11, h⟩ := h
        refine g_iald C 10 0 rfl rfl i11 d_MO_spill_56 ?_
        refine g_iload_n C d_MO_spill_57 rfl 1 rfl ?_
        refine g_iconst C 0 d_MO_spill_58 (by decide) ?_
        refine g_callV C (rest := []) 0 (fun l => m_M_SpillQueueModel_addRun X ad (s9.2 9 (0 : Int32).toNatClampNeg) v5 0 s9 _ h l) rfl rfl (gt 908 (by decide +kernel) rfl) cb_MO_addRun ⟨rfl, rfl⟩ (by rw [hRm]; decide) ⟨Nat.zero_le _, Nat.zero_le _⟩ rfl rfl (Nat.le_of_ble_eq_true rfl) d_MO_spill_59 (gkv (fun s12 h => ?_))
        refine g_aload_n C d_MO_spill_62 rfl 0 rfl ?_
        refine g_get C (v := .int (s12.1 9)) 0 10 iw_MO rfl rfl (by decide) (gt 741 (by decide +kernel) rfl) rfl rfl d_MO_spill_63 ?_
        refine g_if_ne C 73 d_MO_spill_66 (by decide) (fun c14 => ?_) (fun c14 => ?_)
        · have h := h.1 c14
          refine g_iconst C 0 d_MO_spill_73 (by decide) ?_
          refine g_istore_n C (lv2 := [(0, .ref (ad 0)), (1, .int v5), (2, .int 0)]) d_MO_spill_74 rfl (by decide) rfl ?_
          obtain ⟨n25, h⟩ := h
          refine w_M_SpillQueueModel_spill_75 X ad Q (_) v5 E C hRm r ?_ n25 0 s12 h
          intro v27 s26 h
          refine g_iconst C 1 d_MO_spill_126 (by decide) ?_
          exact g_iret r rfl d_MO_spill_127 (gBi_mk h)
        · have h := h.2 c14
          refine g_iconst C 1 d_MO_spill_69 (by decide) ?_
          refine g_goto C 74 d_MO_spill_70 (by decide) ?_
          refine g_istore_n C (lv2 := [(0, .ref (ad 0)), (1, .int v5), (2, .int 1)]) d_MO_spill_74 rfl (by decide) rfl ?_
          obtain ⟨n28, h⟩ := h
          refine w_M_SpillQueueModel_spill_75 X ad Q (_) v5 E C hRm r ?_ n28 1 s12 h
          intro v30 s29 h
          refine g_iconst C 1 d_MO_spill_126 (by decide) ?_
          exact g_iret r rfl d_MO_spill_127 (gBi_mk h)
      · have h := h.2 c8
        refine g_iconst C 0 d_MO_spill_42 (by decide) ?_
        exact g_iret r rfl d_MO_spill_43 (gBi_mk h)
    · have h := h.2 c4
      refine g_iconst C 1 d_MO_spill_27 (by decide) ?_
      exact g_iret r rfl d_MO_spill_28 (gBi_mk h)
  · have h := h.2 c3
    refine g_aload_n C d_MO_spill_11 rfl 0 rfl ?_
    refine g_callV C (rest := []) 0 (fun l => m_M_SpillQueueModel_mergeAll X ad  s1 _ h l) rfl rfl (gt 868 (by decide +kernel) rfl) cb_MO_mergeAll ⟨rfl, rfl⟩ (by rw [hRm]; decide) ⟨Nat.zero_le _, Nat.zero_le _⟩ rfl rfl (Nat.le_of_ble_eq_true rfl) d_MO_spill_12 (gki (fun r32 s31 h => ?_))
    refine g_if_ne C 20 d_MO_spill_15 (by decide) (fun c33 => ?_) (fun c33 => ?_)
    · have h := h.1 c33
      refine g_aload_n C d_MO_spill_20 rfl 0 rfl ?_
      refine g_get C (v := .int (s31.1 9)) 0 10 iw_MO rfl rfl (by decide) (gt 741 (by decide +kernel) rfl) rfl rfl d_MO_spill_21 ?_
      refine g_if_eq C 29 d_MO_spill_24 (by decide) (fun c34 => ?_) (fun c34 => ?_)
      · have h := h.1 c34
        refine g_aload_n C d_MO_spill_29 rfl 0 rfl ?_
        refine g_get C (v := .int (s31.1 10)) 0 11 iw_MO rfl rfl (by decide) (gt 742 (by decide +kernel) rfl) rfl rfl d_MO_spill_30 ?_
        refine g_topi (fun v35 e_v35 => ?_)
        have h := h v35 e_v35
        refine g_istore_n C (lv2 := [(0, .ref (ad 0)), (1, .int v35)]) d_MO_spill_33 rfl (by decide) rfl ?_
        refine g_aload_n C d_MO_spill_34 rfl 0 rfl ?_
        refine g_iload_n C d_MO_spill_35 rfl 1 rfl ?_
        refine g_callV C (rest := []) 0 (fun l => m_M_SpillQueueModel_choose X ad v35 s31 _ h l) rfl rfl (gt 876 (by decide +kernel) rfl) cb_MO_choose ⟨rfl, rfl⟩ (by rw [hRm]; decide) ⟨Nat.zero_le _, Nat.zero_le _⟩ rfl rfl (Nat.le_of_ble_eq_true rfl) d_MO_spill_36 (gki (fun r37 s36 h => ?_))
        refine g_if_ne C 44 d_MO_spill_39 (by decide) (fun c38 => ?_) (fun c38 => ?_)
        · have h := h.1 c38
          refine g_aload_n C d_MO_spill_44 rfl 0 rfl ?_
          refine g_iload_n C d_MO_spill_45 rfl 1 rfl ?_
          refine g_iconst C 1 d_MO_spill_46 (by decide) ?_
          refine g_callV C (rest := []) 0 (fun l => m_M_SpillQueueModel_writeKeys X ad v35 1 s36 _ h l) rfl rfl (gt 888 (by decide +kernel) rfl) cb_MO_writeKeys ⟨rfl, rfl⟩ (by rw [hRm]; decide) ⟨Nat.zero_le _, Nat.zero_le _⟩ rfl rfl (Nat.le_of_ble_eq_true rfl) d_MO_spill_47 (gkv (fun s39 h => ?_))
          refine g_aload_n C d_MO_spill_50 rfl 0 rfl ?_
          refine g_aload_n C d_MO_spill_51 rfl 0 rfl ?_
          refine g_get C (v := .ref (ad 10)) 0 22 iw_MO rfl rfl (by decide) (gt 753 (by decide +kernel) rfl) rfl rfl d_MO_spill_52 ?_
          refine g_iconst C 0 d_MO_spill_55 (by decide) ?_
          obtain ⟨i41, h⟩ := h
          refine g_iald C 10 0 rfl rfl i41 d_MO_spill_56 ?_
          refine g_iload_n C d_MO_spill_57 rfl 1 rfl ?_
          refine g_iconst C 0 d_MO_spill_58 (by decide) ?_
          refine g_callV C (rest := []) 0 (fun l => m_M_SpillQueueModel_addRun X ad (s39.2 9 (0 : Int32).toNatClampNeg) v35 0 s39 _ h l) rfl rfl (gt 908 (by decide +kernel) rfl) cb_MO_addRun ⟨rfl, rfl⟩ (by rw [hRm]; decide) ⟨Nat.zero_le _, Nat.zero_le _⟩ rfl rfl (Nat.le_of_ble_eq_true rfl) d_MO_spill_59 (gkv (fun s42 h => ?_))
          refine g_aload_n C d_MO_spill_62 rfl 0 rfl ?_
          refine g_get C (v := .int (s42.1 9)) 0 10 iw_MO rfl rfl (by decide) (gt 741 (by decide +kernel) rfl) rfl rfl d_MO_spill_63 ?_
          refine g_if_ne C 73 d_MO_spill_66 (by decide) (fun c44 => ?_) (fun c44 => ?_)
          · have h := h.1 c44
            refine g_iconst C 0 d_MO_spill_73 (by decide) ?_
            refine g_istore_n C (lv2 := [(0, .ref (ad 0)), (1, .int v35), (2, .int 0)]) d_MO_spill_74 rfl (by decide) rfl ?_
            obtain ⟨n45, h⟩ := h
            refine w_M_SpillQueueModel_spill_75 X ad Q (_) v35 E C hRm r ?_ n45 0 s42 h
            intro v47 s46 h
            refine g_iconst C 1 d_MO_spill_126 (by decide) ?_
            exact g_iret r rfl d_MO_spill_127 (gBi_mk h)
          · have h := h.2 c44
            refine g_iconst C 1 d_MO_spill_69 (by decide) ?_
            refine g_goto C 74 d_MO_spill_70 (by decide) ?_
            refine g_istore_n C (lv2 := [(0, .ref (ad 0)), (1, .int v35), (2, .int 1)]) d_MO_spill_74 rfl (by decide) rfl ?_
            obtain ⟨n48, h⟩ := h
            refine w_M_SpillQueueModel_spill_75 X ad Q (_) v35 E C hRm r ?_ n48 1 s42 h
            intro v50 s49 h
            refine g_iconst C 1 d_MO_spill_126 (by decide) ?_
            exact g_iret r rfl d_MO_spill_127 (gBi_mk h)
        · have h := h.2 c38
          refine g_iconst C 0 d_MO_spill_42 (by decide) ?_
          exact g_iret r rfl d_MO_spill_43 (gBi_mk h)
      · have h := h.2 c34
        refine g_iconst C 1 d_MO_spill_27 (by decide) ?_
        exact g_iret r rfl d_MO_spill_28 (gBi_mk h)
    · have h := h.2 c33
      refine g_iconst C 0 d_MO_spill_18 (by decide) ?_
      exact g_iret r rfl d_MO_spill_19 (gBi_mk h)
theorem m_M_SpillQueueModel_spill (X : gX) (ad : Nat → Nat) (s : gS) (Q : Int32 → gS → Prop) (h : wp_M_SpillQueueModel_spill  s Q) (l : Launch) : gM l X y_MO_spill b_MO_spill 4 (some .boolean) rm_M_SpillQueueModel_spill [.ref (ad 0)] (wM ad X s) (gBi (wM ad X) Q) :=
  gM_of (by decide +kernel) rfl (Nat.le_of_ble_eq_true rfl) rfl (fun E C hRm r => w_M_SpillQueueModel_spill X ad  s Q h E C hRm r)
def rm_M_SpillQueueModel_insert : Room := { frames := 8, cells := 0, slots := 0, locals := 183 }
def wp_M_SpillQueueModel_insert (a1 : Int32) (s : gS) (Q : Int32 → gS → Prop) : Prop := ((¬ (s.1 8) = 0 → ((0 ≤ a1 → ((¬ (s.1 10) = (s.1 4) → ((¬ (s.1 9) = 0 → wp_M_SpillQueueModel_after 0 (up s.1 0 (0), s.2) (fun r6 s5 => Q r6 s5)) ∧ ((s.1 9) = 0 → vp_in (s.1 10) 100 ∧ (∀ v8 : Int32, v8 = (s.1 10) + 1 → wp_M_SpillQueueModel_after 0 (up (up s.1 0 (0)) 10 (v8), ua s.2 1 (upd (s.2 1) (s.1 10).toNatClampNeg a1)) (fun r10 s9 => Q r10 s9))))) ∧ ((s.1 10) = (s.1 4) → wp_M_SpillQueueModel_spill (up s.1 0 (0), s.2) (fun r12 s11 => ((¬ r12 = 0 → ((¬ (s11.1 9) = 0 → wp_M_SpillQueueModel_after 0 s11 (fun r16 s15 => Q r16 s15)) ∧ ((s11.1 9) = 0 → vp_in (s11.1 10) 100 ∧ (∀ v18 : Int32, v18 = (s11.1 10) + 1 → wp_M_SpillQueueModel_after 0 (up s11.1 10 (v18), ua s11.2 1 (upd (s11.2 1) (s11.1 10).toNatClampNeg a1)) (fun r20 s19 => Q r20 s19))))) ∧ (r12 = 0 → wp_M_SpillQueueModel_after (-2) s11 (fun r22 s21 => Q r22 s21))))))) ∧ (¬ 0 ≤ a1 → Q 0 (up s.1 0 (2), s.2)))) ∧ ((s.1 8) = 0 → Q 0 (up s.1 0 (1), s.2)))
set_option maxHeartbeats 4000000 in
set_option maxRecDepth 100000 in
theorem w_M_SpillQueueModel_insert (X : gX) (ad : Nat → Nat) (a1 : Int32) (s : gS) (Q : Int32 → gS → Prop) (h : wp_M_SpillQueueModel_insert a1 s Q) (E : gE) (C : gC X E b_MO_insert 3 R_MO) (hRm : gRm E = rm_M_SpillQueueModel_insert) (r : gR X E b_MO_insert (some .int) (gBi (wM ad X) Q)) : gW X E 0 0 (wM ad X s) [(0, .ref (ad 0)), (1, .int a1)] 0 [] := by
  have h : ((¬ (s.1 8) = 0 → ((0 ≤ a1 → ((¬ (s.1 10) = (s.1 4) → ((¬ (s.1 9) = 0 → wp_M_SpillQueueModel_after 0 (up s.1 0 (0), s.2) (fun r6 s5 => Q r6 s5)) ∧ ((s.1 9) = 0 → vp_in (s.1 10) 100 ∧ (∀ v8 : Int32, v8 = (s.1 10) + 1 → wp_M_SpillQueueModel_after 0 (up (up s.1 0 (0)) 10 (v8), ua s.2 1 (upd (s.2 1) (s.1 10).toNatClampNeg a1)) (fun r10 s9 => Q r10 s9))))) ∧ ((s.1 10) = (s.1 4) → wp_M_SpillQueueModel_spill (up s.1 0 (0), s.2) (fun r12 s11 => ((¬ r12 = 0 → ((¬ (s11.1 9) = 0 → wp_M_SpillQueueModel_after 0 s11 (fun r16 s15 => Q r16 s15)) ∧ ((s11.1 9) = 0 → vp_in (s11.1 10) 100 ∧ (∀ v18 : Int32, v18 = (s11.1 10) + 1 → wp_M_SpillQueueModel_after 0 (up s11.1 10 (v18), ua s11.2 1 (upd (s11.2 1) (s11.1 10).toNatClampNeg a1)) (fun r20 s19 => Q r20 s19))))) ∧ (r12 = 0 → wp_M_SpillQueueModel_after (-2) s11 (fun r22 s21 => Q r22 s21))))))) ∧ (¬ 0 ≤ a1 → Q 0 (up s.1 0 (2), s.2)))) ∧ ((s.1 8) = 0 → Q 0 (up s.1 0 (1), s.2))) := h
  refine g_aload_n C d_MO_insert_0 rfl 0 rfl ?_
  refine g_aload_n C d_MO_insert_1 rfl 0 rfl ?_
  refine g_get C (v := .int (s.1 8)) 0 9 iw_MO rfl rfl (by decide) (gt 740 (by decide +kernel) rfl) rfl rfl d_MO_insert_2 ?_
  refine g_if_ne C 12 d_MO_insert_5 (by decide) (fun c1 => ?_) (fun c1 => ?_)
  · have h := h.1 c1
    refine g_iload_n C d_MO_insert_12 rfl 1 rfl ?_
    refine g_if_ge C 20 d_MO_insert_13 (by decide) (fun c2 => ?_) (fun c2 => ?_)
    · have h := h.1 c2
      refine g_iconst C 0 d_MO_insert_20 (by decide) ?_
      refine g_put C (ws2 := wM ad X (up s.1 0 (0), s.2)) 0 0 iw_MO ty_MO tyok_MO nm_MO rfl rfl (by decide) (gt 731 (by decide +kernel) rfl) rfl rfl rfl rfl (Nat.le_of_ble_eq_true rfl) rfl d_MO_insert_21 ?_
      refine g_aload_n C d_MO_insert_24 rfl 0 rfl ?_
      refine g_get C (v := .int 0) 0 0 iw_MO rfl rfl (by decide) (gt 731 (by decide +kernel) rfl) rfl rfl d_MO_insert_25 ?_
      refine g_if_le C 33 d_MO_insert_28 (by decide) (fun _ => ?_) (fun c9 => absurd c9 (by decide))
      refine g_aload_n C d_MO_insert_33 rfl 0 rfl ?_
      refine g_get C (v := .int (s.1 10)) 0 11 iw_MO rfl rfl (by decide) (gt 742 (by decide +kernel) rfl) rfl rfl d_MO_insert_34 ?_
      refine g_aload_n C d_MO_insert_37 rfl 0 rfl ?_
      refine g_get C (v := .int (s.1 4)) 0 4 iw_MO rfl rfl (by decide) (gt 735 (by decide +kernel) rfl) rfl rfl d_MO_insert_38 ?_
      refine g_icmp_ne C 55 d_MO_insert_41 (by decide) (fun c3 => ?_) (fun c3 => ?_)
      · have h := h.1 c3
        refine g_iconst C 0 d_MO_insert_55 (by decide) ?_
        refine g_istore_n C (lv2 := [(0, .ref (ad 0)), (1, .int a1), (2, .int 0)]) d_MO_insert_56 rfl (by decide) rfl ?_
        refine g_iload_n C d_MO_insert_57 rfl 2 rfl ?_
        refine g_if_ne C 88 d_MO_insert_58 (by decide) (fun c9 => absurd c9 (by decide)) (fun _ => ?_)
        refine g_aload_n C d_MO_insert_61 rfl 0 rfl ?_
        refine g_get C (v := .int (s.1 9)) 0 10 iw_MO rfl rfl (by decide) (gt 741 (by decide +kernel) rfl) rfl rfl d_MO_insert_62 ?_
        refine g_if_ne C 88 d_MO_insert_65 (by decide) (fun c4 => ?_) (fun c4 => ?_)
        · have h := h.1 c4
          refine g_aload_n C d_MO_insert_88 rfl 0 rfl ?_
          refine g_iload_n C d_MO_insert_89 rfl 2 rfl ?_
          refine g_if_eq C 98 d_MO_insert_90 (by decide) (fun _ => ?_) (fun c9 => absurd c9 (by decide))
          refine g_iconst C 0 d_MO_insert_98 (by decide) ?_
          refine g_callV C (rest := []) 0 (fun l => m_M_SpillQueueModel_after X ad 0 (up s.1 0 (0), s.2) _ h l) rfl rfl (gt 920 (by decide +kernel) rfl) cb_MO_after ⟨rfl, rfl⟩ (by rw [hRm]; decide) ⟨Nat.zero_le _, Nat.zero_le _⟩ rfl rfl (Nat.le_of_ble_eq_true rfl) d_MO_insert_99 (gki (fun r6 s5 h => ?_))
          exact g_iret r rfl d_MO_insert_102 (gBi_mk h)
        · have h := h.2 c4
          refine g_aload_n C d_MO_insert_68 rfl 0 rfl ?_
          refine g_get C (v := .ref (ad 2)) 0 12 iw_MO rfl rfl (by decide) (gt 743 (by decide +kernel) rfl) rfl rfl d_MO_insert_69 ?_
          refine g_aload_n C d_MO_insert_72 rfl 0 rfl ?_
          refine g_get C (v := .int (s.1 10)) 0 11 iw_MO rfl rfl (by decide) (gt 742 (by decide +kernel) rfl) rfl rfl d_MO_insert_73 ?_
          refine g_iload_n C d_MO_insert_76 rfl 1 rfl ?_
          obtain ⟨i7, h⟩ := h
          refine g_iast C 2 0 (ws2 := wM ad X (up s.1 0 (0), ua s.2 1 (upd (s.2 1) (s.1 10).toNatClampNeg a1))) rfl rfl i7 rfl d_MO_insert_77 ?_
          refine g_aload_n C d_MO_insert_78 rfl 0 rfl ?_
          refine g_dup C rfl d_MO_insert_79 ?_
          refine g_get C (v := .int (s.1 10)) 0 11 iw_MO rfl rfl (by decide) (gt 742 (by decide +kernel) rfl) rfl rfl d_MO_insert_80 ?_
          refine g_iconst C 1 d_MO_insert_83 (by decide) ?_
          refine g_iadd C d_MO_insert_84 ?_
          refine g_topi (fun v8 e_v8 => ?_)
          have h := h v8 e_v8
          refine g_put C (ws2 := wM ad X (up (up s.1 0 (0)) 10 (v8), ua s.2 1 (upd (s.2 1) (s.1 10).toNatClampNeg a1))) 0 11 iw_MO ty_MO tyok_MO nm_MO rfl rfl (by decide) (gt 742 (by decide +kernel) rfl) rfl rfl rfl rfl (Nat.le_of_ble_eq_true rfl) rfl d_MO_insert_85 ?_
          refine g_aload_n C d_MO_insert_88 rfl 0 rfl ?_
          refine g_iload_n C d_MO_insert_89 rfl 2 rfl ?_
          refine g_if_eq C 98 d_MO_insert_90 (by decide) (fun _ => ?_) (fun c9 => absurd c9 (by decide))
          refine g_iconst C 0 d_MO_insert_98 (by decide) ?_
          refine g_callV C (rest := []) 0 (fun l => m_M_SpillQueueModel_after X ad 0 (up (up s.1 0 (0)) 10 (v8), ua s.2 1 (upd (s.2 1) (s.1 10).toNatClampNeg a1)) _ h l) rfl rfl (gt 920 (by decide +kernel) rfl) cb_MO_after ⟨rfl, rfl⟩ (by rw [hRm]; decide) ⟨Nat.zero_le _, Nat.zero_le _⟩ rfl rfl (Nat.le_of_ble_eq_true rfl) d_MO_insert_99 (gki (fun r10 s9 h => ?_))
          exact g_iret r rfl d_MO_insert_102 (gBi_mk h)
      · have h := h.2 c3
        refine g_aload_n C d_MO_insert_44 rfl 0 rfl ?_
        refine g_callV C (rest := []) 0 (fun l => m_M_SpillQueueModel_spill X ad  (up s.1 0 (0), s.2) _ h l) rfl rfl (gt 860 (by decide +kernel) rfl) cb_MO_spill ⟨rfl, rfl⟩ (by rw [hRm]; decide) ⟨Nat.zero_le _, Nat.zero_le _⟩ rfl rfl (Nat.le_of_ble_eq_true rfl) d_MO_insert_45 (gki (fun r12 s11 h => ?_))
        refine g_if_ne C 55 d_MO_insert_48 (by decide) (fun c13 => ?_) (fun c13 => ?_)
        · have h := h.1 c13
          refine g_iconst C 0 d_MO_insert_55 (by decide) ?_
          refine g_istore_n C (lv2 := [(0, .ref (ad 0)), (1, .int a1), (2, .int 0)]) d_MO_insert_56 rfl (by decide) rfl ?_
          refine g_iload_n C d_MO_insert_57 rfl 2 rfl ?_
          refine g_if_ne C 88 d_MO_insert_58 (by decide) (fun c9 => absurd c9 (by decide)) (fun _ => ?_)
          refine g_aload_n C d_MO_insert_61 rfl 0 rfl ?_
          refine g_get C (v := .int (s11.1 9)) 0 10 iw_MO rfl rfl (by decide) (gt 741 (by decide +kernel) rfl) rfl rfl d_MO_insert_62 ?_
          refine g_if_ne C 88 d_MO_insert_65 (by decide) (fun c14 => ?_) (fun c14 => ?_)
          · have h := h.1 c14
            refine g_aload_n C d_MO_insert_88 rfl 0 rfl ?_
            refine g_iload_n C d_MO_insert_89 rfl 2 rfl ?_
            refine g_if_eq C 98 d_MO_insert_90 (by decide) (fun _ => ?_) (fun c9 => absurd c9 (by decide))
            refine g_iconst C 0 d_MO_insert_98 (by decide) ?_
            refine g_callV C (rest := []) 0 (fun l => m_M_SpillQueueModel_after X ad 0 s11 _ h l) rfl rfl (gt 920 (by decide +kernel) rfl) cb_MO_after ⟨rfl, rfl⟩ (by rw [hRm]; decide) ⟨Nat.zero_le _, Nat.zero_le _⟩ rfl rfl (Nat.le_of_ble_eq_true rfl) d_MO_insert_99 (gki (fun r16 s15 h => ?_))
            exact g_iret r rfl d_MO_insert_102 (gBi_mk h)
          · have h := h.2 c14
            refine g_aload_n C d_MO_insert_68 rfl 0 rfl ?_
            refine g_get C (v := .ref (ad 2)) 0 12 iw_MO rfl rfl (by decide) (gt 743 (by decide +kernel) rfl) rfl rfl d_MO_insert_69 ?_
            refine g_aload_n C d_MO_insert_72 rfl 0 rfl ?_
            refine g_get C (v := .int (s11.1 10)) 0 11 iw_MO rfl rfl (by decide) (gt 742 (by decide +kernel) rfl) rfl rfl d_MO_insert_73 ?_
            refine g_iload_n C d_MO_insert_76 rfl 1 rfl ?_
            obtain ⟨i17, h⟩ := h
            refine g_iast C 2 0 (ws2 := wM ad X (s11.1, ua s11.2 1 (upd (s11.2 1) (s11.1 10).toNatClampNeg a1))) rfl rfl i17 rfl d_MO_insert_77 ?_
            refine g_aload_n C d_MO_insert_78 rfl 0 rfl ?_
            refine g_dup C rfl d_MO_insert_79 ?_
            refine g_get C (v := .int (s11.1 10)) 0 11 iw_MO rfl rfl (by decide) (gt 742 (by decide +kernel) rfl) rfl rfl d_MO_insert_80 ?_
            refine g_iconst C 1 d_MO_insert_83 (by decide) ?_
            refine g_iadd C d_MO_insert_84 ?_
            refine g_topi (fun v18 e_v18 => ?_)
            have h := h v18 e_v18
            refine g_put C (ws2 := wM ad X (up s11.1 10 (v18), ua s11.2 1 (upd (s11.2 1) (s11.1 10).toNatClampNeg a1))) 0 11 iw_MO ty_MO tyok_MO nm_MO rfl rfl (by decide) (gt 742 (by decide +kernel) rfl) rfl rfl rfl rfl (Nat.le_of_ble_eq_true rfl) rfl d_MO_insert_85 ?_
            refine g_aload_n C d_MO_insert_88 rfl 0 rfl ?_
            refine g_iload_n C d_MO_insert_89 rfl 2 rfl ?_
            refine g_if_eq C 98 d_MO_insert_90 (by decide) (fun _ => ?_) (fun c9 => absurd c9 (by decide))
            refine g_iconst C 0 d_MO_insert_98 (by decide) ?_
            refine g_callV C (rest := []) 0 (fun l => m_M_SpillQueueModel_after X ad 0 (up s11.1 10 (v18), ua s11.2 1 (upd (s11.2 1) (s11.1 10).toNatClampNeg a1)) _ h l) rfl rfl (gt 920 (by decide +kernel) rfl) cb_MO_after ⟨rfl, rfl⟩ (by rw [hRm]; decide) ⟨Nat.zero_le _, Nat.zero_le _⟩ rfl rfl (Nat.le_of_ble_eq_true rfl) d_MO_insert_99 (gki (fun r20 s19 h => ?_))
            exact g_iret r rfl d_MO_insert_102 (gBi_mk h)
        · have h := h.2 c13
          refine g_iconst C 1 d_MO_insert_51 (by decide) ?_
          refine g_goto C 56 d_MO_insert_52 (by decide) ?_
          refine g_istore_n C (lv2 := [(0, .ref (ad 0)), (1, .int a1), (2, .int 1)]) d_MO_insert_56 rfl (by decide) rfl ?_
          refine g_iload_n C d_MO_insert_57 rfl 2 rfl ?_
          refine g_if_ne C 88 d_MO_insert_58 (by decide) (fun _ => ?_) (fun c9 => absurd c9 (by decide))
          refine g_aload_n C d_MO_insert_88 rfl 0 rfl ?_
          refine g_iload_n C d_MO_insert_89 rfl 2 rfl ?_
          refine g_if_eq C 98 d_MO_insert_90 (by decide) (fun c9 => absurd c9 (by decide)) (fun _ => ?_)
          refine g_bipush C (-2) d_MO_insert_93 (by decide) ?_
          refine g_goto C 99 d_MO_insert_95 (by decide) ?_
          refine g_callV C (rest := []) 0 (fun l => m_M_SpillQueueModel_after X ad (-2) s11 _ h l) rfl rfl (gt 920 (by decide +kernel) rfl) cb_MO_after ⟨rfl, rfl⟩ (by rw [hRm]; decide) ⟨Nat.zero_le _, Nat.zero_le _⟩ rfl rfl (Nat.le_of_ble_eq_true rfl) d_MO_insert_99 (gki (fun r22 s21 h => ?_))
          exact g_iret r rfl d_MO_insert_102 (gBi_mk h)
    · have h := h.2 c2
      refine g_iconst C 2 d_MO_insert_16 (by decide) ?_
      refine g_goto C 21 d_MO_insert_17 (by decide) ?_
      refine g_put C (ws2 := wM ad X (up s.1 0 (2), s.2)) 0 0 iw_MO ty_MO tyok_MO nm_MO rfl rfl (by decide) (gt 731 (by decide +kernel) rfl) rfl rfl rfl rfl (Nat.le_of_ble_eq_true rfl) rfl d_MO_insert_21 ?_
      refine g_aload_n C d_MO_insert_24 rfl 0 rfl ?_
      refine g_get C (v := .int 2) 0 0 iw_MO rfl rfl (by decide) (gt 731 (by decide +kernel) rfl) rfl rfl d_MO_insert_25 ?_
      refine g_if_le C 33 d_MO_insert_28 (by decide) (fun c9 => absurd c9 (by decide)) (fun _ => ?_)
      refine g_iconst C 0 d_MO_insert_31 (by decide) ?_
      exact g_iret r rfl d_MO_insert_32 (gBi_mk h)
  · have h := h.2 c1
    refine g_iconst C 1 d_MO_insert_8 (by decide) ?_
    refine g_goto C 21 d_MO_insert_9 (by decide) ?_
    refine g_put C (ws2 := wM ad X (up s.1 0 (1), s.2)) 0 0 iw_MO ty_MO tyok_MO nm_MO rfl rfl (by decide) (gt 731 (by decide +kernel) rfl) rfl rfl rfl rfl (Nat.le_of_ble_eq_true rfl) rfl d_MO_insert_21 ?_
    refine g_aload_n C d_MO_insert_24 rfl 0 rfl ?_
    refine g_get C (v := .int 1) 0 0 iw_MO rfl rfl (by decide) (gt 731 (by decide +kernel) rfl) rfl rfl d_MO_insert_25 ?_
    refine g_if_le C 33 d_MO_insert_28 (by decide) (fun c9 => absurd c9 (by decide)) (fun _ => ?_)
    refine g_iconst C 0 d_MO_insert_31 (by decide) ?_
    exact g_iret r rfl d_MO_insert_32 (gBi_mk h)
theorem m_M_SpillQueueModel_insert (X : gX) (ad : Nat → Nat) (a1 : Int32) (s : gS) (Q : Int32 → gS → Prop) (h : wp_M_SpillQueueModel_insert a1 s Q) (l : Launch) : gM l X y_MO_insert b_MO_insert 3 (some .int) rm_M_SpillQueueModel_insert [.ref (ad 0), .int a1] (wM ad X s) (gBi (wM ad X) Q) :=
  gM_of (by decide +kernel) rfl (Nat.le_of_ble_eq_true rfl) rfl (fun E C hRm r => w_M_SpillQueueModel_insert X ad a1 s Q h E C hRm r)
