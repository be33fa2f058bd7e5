def rm_Superblocks_isRunRight : Room := { frames := 3, cells := 0, slots := 0, locals := 78 }
def wp_Superblocks_isRunRight (a1 : Int32) (a2 : Int32) (s : gS) (Q : Int32 → gS → Prop) : Prop := wp_Disk_get a1 (a2 + 1) s (fun r2 s1 => wp_Disk_get a1 (a2 + 2) s1 (fun r4 s3 => wp_Disk_keysPerBlock s3 (fun r6 s5 => wp_Disk_get a1 (a2 + 3) s5 (fun r8 s7 => ((r8 < 0 → Q 0 s7) ∧ (¬ r8 < 0 → ((r2 < 0 → Q 0 s7) ∧ (¬ r2 < 0 → ((r2 < r6 → ((r4 < 1 → Q 0 s7) ∧ (¬ r4 < 1 → ((r4 ≤ ((s7.1 3) * r6) → wp_Disk_get a1 (a2 + 0) s7 (fun r15 s14 => wp_Superblocks_isChainRight r15 r2 (r2 + r4) s14 (fun r17 s16 => narrow .boolean (.int r17) = .int r17 ∧ (Q r17 s16)))) ∧ (¬ r4 ≤ ((s7.1 3) * r6) → Q 0 s7))))) ∧ (¬ r2 < r6 → Q 0 s7))))))))))
set_option maxHeartbeats 4000000 in
set_option maxRecDepth 100000 in
theorem w_Superblocks_isRunRight (X : gX) (ad : Nat → Nat) (a1 : Int32) (a2 : Int32) (s : gS) (Q : Int32 → gS → Prop) (h : wp_Superblocks_isRunRight a1 a2 s Q) (E : gE) (C : gC X E b_SB_isRunRight 6 R_SB) (hRm : gRm E = rm_Superblocks_isRunRight) (r : gR X E b_SB_isRunRight (some .boolean) (gBi (wC ad X) Q)) : gW X E 0 0 (wC ad X s) [(0, .ref (ad 13)), (1, .int a1), (2, .int a2)] 0 [] := by
  have h : wp_Disk_get a1 (a2 + 1) s (fun r2 s1 => wp_Disk_get a1 (a2 + 2) s1 (fun r4 s3 => wp_Disk_keysPerBlock s3 (fun r6 s5 => wp_Disk_get a1 (a2 + 3) s5 (fun r8 s7 => ((r8 < 0 → Q 0 s7) ∧ (¬ r8 < 0 → ((r2 < 0 → Q 0 s7) ∧ (¬ r2 < 0 → ((r2 < r6 → ((r4 < 1 → Q 0 s7) ∧ (¬ r4 < 1 → ((r4 ≤ ((s7.1 3) * r6) → wp_Disk_get a1 (a2 + 0) s7 (fun r15 s14 => wp_Superblocks_isChainRight r15 r2 (r2 + r4) s14 (fun r17 s16 => narrow .boolean (.int r17) = .int r17 ∧ (Q r17 s16)))) ∧ (¬ r4 ≤ ((s7.1 3) * r6) → Q 0 s7))))) ∧ (¬ r2 < r6 → Q 0 s7)))))))))) := h
  refine g_aload_n C d_SB_isRunRight_0 rfl 0 rfl ?_
  refine g_get C (v := .ref (ad 1)) 13 0 iw_SB rfl rfl (by decide) (gt 220 (by decide +kernel) rfl) rfl rfl d_SB_isRunRight_1 ?_
  refine g_iload_n C d_SB_isRunRight_4 rfl 1 rfl ?_
  refine g_iload_n C d_SB_isRunRight_5 rfl 2 rfl ?_
  refine g_iconst C 1 d_SB_isRunRight_6 (by decide) ?_
  refine g_iadd C d_SB_isRunRight_7 ?_
  refine g_callVN (host := "SpillQueue") C (rest := []) 1 (fun l => m_Disk_get X ad a1 (a2 + 1) s _ h l) rfl rfl (gn 630 (by decide +kernel) rfl) cb_DK_get ⟨rfl, rfl⟩ (by rw [hRm]; decide) ⟨Nat.zero_le _, Nat.zero_le _⟩ rfl rfl (Nat.le_of_ble_eq_true rfl) d_SB_isRunRight_8 (gki (fun r2 s1 h => ?_))
  refine g_istore_n C (lv2 := [(0, .ref (ad 13)), (1, .int a1), (2, .int a2), (3, .int r2)]) d_SB_isRunRight_11 rfl (by decide) rfl ?_
  refine g_aload_n C d_SB_isRunRight_12 rfl 0 rfl ?_
  refine g_get C (v := .ref (ad 1)) 13 0 iw_SB rfl rfl (by decide) (gt 220 (by decide +kernel) rfl) rfl rfl d_SB_isRunRight_13 ?_
  refine g_iload_n C d_SB_isRunRight_16 rfl 1 rfl ?_
  refine g_iload_n C d_SB_isRunRight_17 rfl 2 rfl ?_
  refine g_iconst C 2 d_SB_isRunRight_18 (by decide) ?_
  refine g_iadd C d_SB_isRunRight_19 ?_
  refine g_callVN (host := "SpillQueue") C (rest := []) 1 (fun l => m_Disk_get X ad a1 (a2 + 2) s1 _ h l) rfl rfl (gn 630 (by decide +kernel) rfl) cb_DK_get ⟨rfl, rfl⟩ (by rw [hRm]; decide) ⟨Nat.zero_le _, Nat.zero_le _⟩ rfl rfl (Nat.le_of_ble_eq_true rfl) d_SB_isRunRight_20 (gki (fun r4 s3 h => ?_))
  refine g_istore C (lv2 := [(0, .ref (ad 13)), (1, .int a1), (2, .int a2), (3, .int r2), (4, .int r4)]) d_SB_isRunRight_23 (by decide) rfl ?_
  refine g_aload_n C d_SB_isRunRight_25 rfl 0 rfl ?_
  refine g_get C (v := .ref (ad 1)) 13 0 iw_SB rfl rfl (by decide) (gt 220 (by decide +kernel) rfl) rfl rfl d_SB_isRunRight_26 ?_
  refine g_callVN (host := "SpillQueue") C (rest := []) 1 (fun l => m_Disk_keysPerBlock X ad  s3 _ h l) rfl rfl (gn 638 (by decide +kernel) rfl) cb_DK_keysPerBlock ⟨rfl, rfl⟩ (by rw [hRm]; decide) ⟨Nat.zero_le _, Nat.zero_le _⟩ rfl rfl (Nat.le_of_ble_eq_true rfl) d_SB_isRunRight_29 (gki (fun r6 s5 h => ?_))
  refine g_istore C (lv2 := [(0, .ref (ad 13)), (1, .int a1), (2, .int a2), (3, .int r2), (4, .int r4), (5, .int r6)]) d_SB_isRunRight_32 (by decide) rfl ?_
  refine g_aload_n C d_SB_isRunRight_34 rfl 0 rfl ?_
  refine g_get C (v := .ref (ad 1)) 13 0 iw_SB rfl rfl (by decide) (gt 220 (by decide +kernel) rfl) rfl rfl d_SB_isRunRight_35 ?_
  refine g_iload_n C d_SB_isRunRight_38 rfl 1 rfl ?_
  refine g_iload_n C d_SB_isRunRight_39 rfl 2 rfl ?_
  refine g_iconst C 3 d_SB_isRunRight_40 (by decide) ?_
  refine g_iadd C d_SB_isRunRight_41 ?_
  refine g_callVN (host := "SpillQueue") C (rest := []) 1 (fun l => m_Disk_get X ad a1 (a2 + 3) s5 _ h l) rfl rfl (gn 630 (by decide +kernel) rfl) cb_DK_get ⟨rfl, rfl⟩ (by rw [hRm]; decide) ⟨Nat.zero_le _, Nat.zero_le _⟩ rfl rfl (Nat.le_of_ble_eq_true rfl) d_SB_isRunRight_42 (gki (fun r8 s7 h => ?_))
  refine g_if_lt C 58 d_SB_isRunRight_45 (by decide) (fun c9 => ?_) (fun c9 => ?_)
  · have h := h.1 c9
    refine g_iconst C 0 d_SB_isRunRight_58 (by decide) ?_
    exact g_iret r rfl d_SB_isRunRight_59 (gBi_mk h)
  · have h := h.2 c9
    refine g_iload_n C d_SB_isRunRight_48 rfl 3 rfl ?_
    refine g_if_lt C 58 d_SB_isRunRight_49 (by decide) (fun c10 => ?_) (fun c10 => ?_)
    · have h := h.1 c10
      refine g_iconst C 0 d_SB_isRunRight_58 (by decide) ?_
      exact g_iret r rfl d_SB_isRunRight_59 (gBi_mk h)
    · have h := h.2 c10
      refine g_iload_n C d_SB_isRunRight_52 rfl 3 rfl ?_
      refine g_iload C d_SB_isRunRight_53 5 rfl ?_
      refine g_icmp_lt C 60 d_SB_isRunRight_55 (by decide) (fun c11 => ?_) (fun c11 => ?_)
      · have h := h.1 c11
        refine g_iload C d_SB_isRunRight_60 4 rfl ?_
        refine g_iconst C 1 d_SB_isRunRight_62 (by decide) ?_
        refine g_icmp_lt C 81 d_SB_isRunRight_63 (by decide) (fun c12 => ?_) (fun c12 => ?_)
        · have h := h.1 c12
          refine g_iconst C 0 d_SB_isRunRight_81 (by decide) ?_
          exact g_iret r rfl d_SB_isRunRight_82 (gBi_mk h)
        · have h := h.2 c12
          refine g_iload C d_SB_isRunRight_66 4 rfl ?_
          refine g_aload_n C d_SB_isRunRight_68 rfl 0 rfl ?_
          refine g_get C (v := .ref (ad 1)) 13 0 iw_SB rfl rfl (by decide) (gt 220 (by decide +kernel) rfl) rfl rfl d_SB_isRunRight_69 ?_
          refine g_getN (host := "SpillQueue") C (v := .int (s7.1 3)) 1 2 iw_DK rfl rfl (by decide) (gn 121 (by decide +kernel) rfl) rfl rfl d_SB_isRunRight_72 ?_
          refine g_iload C d_SB_isRunRight_75 5 rfl ?_
          refine g_imul C d_SB_isRunRight_77 ?_
          refine g_icmp_le C 83 d_SB_isRunRight_78 (by decide) (fun c13 => ?_) (fun c13 => ?_)
          · have h := h.1 c13
            refine g_aload_n C d_SB_isRunRight_83 rfl 0 rfl ?_
            refine g_aload_n C d_SB_isRunRight_84 rfl 0 rfl ?_
            refine g_get C (v := .ref (ad 1)) 13 0 iw_SB rfl rfl (by decide) (gt 220 (by decide +kernel) rfl) rfl rfl d_SB_isRunRight_85 ?_
            refine g_iload_n C d_SB_isRunRight_88 rfl 1 rfl ?_
            refine g_iload_n C d_SB_isRunRight_89 rfl 2 rfl ?_
            refine g_iconst C 0 d_SB_isRunRight_90 (by decide) ?_
            refine g_iadd C d_SB_isRunRight_91 ?_
            refine g_callVN (host := "SpillQueue") C (rest := [.ref (ad 13)]) 1 (fun l => m_Disk_get X ad a1 (a2 + 0) s7 _ h l) rfl rfl (gn 630 (by decide +kernel) rfl) cb_DK_get ⟨rfl, rfl⟩ (by rw [hRm]; decide) ⟨Nat.zero_le _, Nat.zero_le _⟩ rfl rfl (Nat.le_of_ble_eq_true rfl) d_SB_isRunRight_92 (gki (fun r15 s14 h => ?_))
            refine g_iload_n C d_SB_isRunRight_95 rfl 3 rfl ?_
            refine g_iload_n C d_SB_isRunRight_96 rfl 3 rfl ?_
            refine g_iload C d_SB_isRunRight_97 4 rfl ?_
            refine g_iadd C d_SB_isRunRight_99 ?_
            refine g_callV C (rest := []) 13 (fun l => m_Superblocks_isChainRight X ad r15 r2 (r2 + r4) s14 _ h l) rfl rfl (gt 639 (by decide +kernel) rfl) cb_SB_isChainRight ⟨rfl, rfl⟩ (by rw [hRm]; decide) ⟨Nat.zero_le _, Nat.zero_le _⟩ rfl rfl (Nat.le_of_ble_eq_true rfl) d_SB_isRunRight_100 (gki (fun r17 s16 h => ?_))
            obtain ⟨b18, h⟩ := h
            exact g_iret r b18 d_SB_isRunRight_103 (gBi_mk h)
          · have h := h.2 c13
            refine g_iconst C 0 d_SB_isRunRight_81 (by decide) ?_
            exact g_iret r rfl d_SB_isRunRight_82 (gBi_mk h)
      · have h := h.2 c11
        refine g_iconst C 0 d_SB_isRunRight_58 (by decide) ?_
        exact g_iret r rfl d_SB_isRunRight_59 (gBi_mk h)
theorem m_Superblocks_isRunRight (X : gX) (ad : Nat → Nat) (a1 : Int32) (a2 : Int32) (s : gS) (Q : Int32 → gS → Prop) (h : wp_Superblocks_isRunRight a1 a2 s Q) (l : Launch) : gM l X y_SB_isRunRight b_SB_isRunRight 6 (some .boolean) rm_Superblocks_isRunRight [.ref (ad 13), .int a1, .int a2] (wC ad X s) (gBi (wC ad X) Q) :=
  gM_of (by decide +kernel) rfl (Nat.le_of_ble_eq_true rfl) rfl (fun E C hRm r => w_Superblocks_isRunRight X ad a1 a2 s Q h E C hRm r)
def rm_Superblocks_isGood : Room := { frames := 4, cells := 0, slots := 0, locals := 103 }
def wl_Superblocks_isGood_77 (Q : Int32 → gS → Prop) (K : Int32 → gS → Prop) (x1 : Int32) (x2 : Int32) (x3 : Int32) : Nat → Int32 → gS → Prop
  | 0, _, _ => False
  | n + 1, x4, s => ((x3 ≤ x4 → K x4 s) ∧ (¬ x3 ≤ x4 → wp_Superblocks_isRunRight x1 (3 + (x4 * 4)) s (fun r20 s19 => ((¬ r20 = 0 → ∀ v22 : Int32, v22 = x4 + 1 → wl_Superblocks_isGood_77 Q K x1 x2 x3 n v22 s19) ∧ (r20 = 0 → Q 0 s19)))))
set_option maxHeartbeats 4000000 in
set_option maxRecDepth 100000 in
theorem w_Superblocks_isGood_77 (X : gX) (ad : Nat → Nat) (Q : Int32 → gS → Prop) (K : Int32 → gS → Prop) (x1 : Int32) (x2 : Int32) (x3 : Int32) (E : gE) (C : gC X E b_SB_isGood 5 R_SB) (hRm : gRm E = rm_Superblocks_isGood) (r : gR X E b_SB_isGood (some .boolean) (gBi (wC ad X) Q)) (hK : ∀ (x4 : Int32) (s : gS), K x4 s → gW X E 0 0 (wC ad X s) [(0, .ref (ad 13)), (1, .int x1), (2, .int x2), (3, .int x3), (4, .int x4)] 105 []) : ∀ (n : Nat) (x4 : Int32) (s : gS), wl_Superblocks_isGood_77 Q K x1 x2 x3 n x4 s → gW X E 0 0 (wC ad X s) [(0, .ref (ad 13)), (1, .int x1), (2, .int x2), (3, .int x3), (4, .int x4)] 77 [] := by
  intro n
  induction n with
  | zero => intro x4 s h; exact False.elim h
  | succ n ih =>
    intro x4 s h
    have h : ((x3 ≤ x4 → K x4 s) ∧ (¬ x3 ≤ x4 → wp_Superblocks_isRunRight x1 (3 + (x4 * 4)) s (fun r20 s19 => ((¬ r20 = 0 → ∀ v22 : Int32, v22 = x4 + 1 → wl_Superblocks_isGood_77 Q K x1 x2 x3 n v22 s19) ∧ (r20 = 0 → Q 0 s19))))) := h
    refine g_iload C d_SB_isGood_77 4 rfl ?_
    refine g_iload_n C d_SB_isGood_79 rfl 3 rfl ?_
    refine g_icmp_ge C 105 d_SB_isGood_80 (by decide) (fun c18 => ?_) (fun c18 => ?_)
    · have h := h.1 c18
      exact hK x4 s h
    · have h := h.2 c18
      refine g_aload_n C d_SB_isGood_83 rfl 0 rfl ?_
      refine g_iload_n C d_SB_isGood_84 rfl 1 rfl ?_
      refine g_iconst C 3 d_SB_isGood_85 (by decide) ?_
      refine g_iload C d_SB_isGood_86 4 rfl ?_
      refine g_iconst C 4 d_SB_isGood_88 (by decide) ?_
      refine g_imul C d_SB_isGood_89 ?_
      refine g_iadd C d_SB_isGood_90 ?_
      refine g_callV C (rest := []) 13 (fun l => m_Superblocks_isRunRight X ad x1 (3 + (x4 * 4)) s _ h l) rfl rfl (gt 634 (by decide +kernel) rfl) cb_SB_isRunRight ⟨rfl, rfl⟩ (by rw [hRm]; decide) ⟨Nat.zero_le _, Nat.zero_le _⟩ rfl rfl (Nat.le_of_ble_eq_true rfl) d_SB_isGood_91 (gki (fun r20 s19 h => ?_))
      refine g_if_ne C 99 d_SB_isGood_94 (by decide) (fun c21 => ?_) (fun c21 => ?_)
      · have h := h.1 c21
        obtain ⟨v22, e_v22⟩ : ∃ y : Int32, y = x4 + 1 := ⟨_, rfl⟩
        have h := h v22 e_v22
        refine g_iinc C (v := v22) (lv2 := [(0, .ref (ad 13)), (1, .int x1), (2, .int x2), (3, .int x3), (4, .int v22)]) d_SB_isGood_99 4 rfl (by rw [e_v22]; rfl) (by decide) rfl ?_
        refine g_goto C 77 d_SB_isGood_102 (by decide) ?_
        exact ih v22 s19 h
      · have h := h.2 c21
        refine g_iconst C 0 d_SB_isGood_97 (by decide) ?_
        exact g_iret r rfl d_SB_isGood_98 (gBi_mk h)
def wp_Superblocks_isGood (a1 : Int32) (s : gS) (Q : Int32 → gS → Prop) : Prop := wp_Superblocks_epochOf a1 s (fun r2 s1 => ((r2 < 1 → Q 0 s1) ∧ (¬ r2 < 1 → ((¬ (r2 &&& 1) = a1 → Q 0 s1) ∧ ((r2 &&& 1) = a1 → wp_Disk_get a1 0 s1 (fun r6 s5 => wp_Disk_sumOf a1 s5 (fun r8 s7 => ((r6 = r8 → wp_Disk_get a1 2 s7 (fun r11 s10 => ((r11 < 0 → Q 0 s10) ∧ (¬ r11 < 0 → wp_Disk_mostRuns s10 (fun r14 s13 => ((r11 ≤ r14 → wp_BlockSet_clear_14 s13 (fun s16 => ∃ n23 : Nat, wl_Superblocks_isGood_77 Q (fun v25 s24 => Q 1 s24) a1 r2 r11 n23 0 s16)) ∧ (¬ r11 ≤ r14 → Q 0 s13))))))) ∧ (¬ r6 = r8 → Q 0 s7)))))))))
set_option maxHeartbeats 4000000 in
set_option maxRecDepth 100000 in
theorem w_Superblocks_isGood (X : gX) (ad : Nat → Nat) (a1 : Int32) (s : gS) (Q : Int32 → gS → Prop) (h : wp_Superblocks_isGood a1 s Q) (E : gE) (C : gC X E b_SB_isGood 5 R_SB) (hRm : gRm E = rm_Superblocks_isGood) (r : gR X E b_SB_isGood (some .boolean) (gBi (wC ad X) Q)) : gW X E 0 0 (wC ad X s) [(0, .ref (ad 13)), (1, .int a1)] 0 [] := by
  have h : wp_Superblocks_epochOf a1 s (fun r2 s1 => ((r2 < 1 → Q 0 s1) ∧ (¬ r2 < 1 → ((¬ (r2 &&& 1) = a1 → Q 0 s1) ∧ ((r2 &&& 1) = a1 → wp_Disk_get a1 0 s1 (fun r6 s5 => wp_Disk_sumOf a1 s5 (fun r8 s7 => ((r6 = r8 → wp_Disk_get a1 2 s7 (fun r11 s10 => ((r11 < 0 → Q 0 s10) ∧ (¬ r11 < 0 → wp_Disk_mostRuns s10 (fun r14 s13 => ((r11 ≤ r14 → wp_BlockSet_clear_14 s13 (fun s16 => ∃ n23 : Nat, wl_Superblocks_isGood_77 Q (fun v25 s24 => Q 1 s24) a1 r2 r11 n23 0 s16)) ∧ (¬ r11 ≤ r14 → Q 0 s13))))))) ∧ (¬ r6 = r8 → Q 0 s7))))))))) := h
  refine g_aload_n C d_SB_isGood_0 rfl 0 rfl ?_
  refine g_iload_n C d_SB_isGood_1 rfl 1 rfl ?_
  refine g_callV C (rest := []) 13 (fun l => m_Superblocks_epochOf X ad a1 s _ h l) rfl rfl (gt 626 (by decide +kernel) rfl) cb_SB_epochOf ⟨rfl, rfl⟩ (by rw [hRm]; decide) ⟨Nat.zero_le _, Nat.zero_le _⟩ rfl rfl (Nat.le_of_ble_eq_true rfl) d_SB_isGood_2 (gki (fun r2 s1 h => ?_))
  refine g_istore_n C (lv2 := [(0, .ref (ad 13)), (1, .int a1), (2, .int r2)]) d_SB_isGood_5 rfl (by decide) rfl ?_
  refine g_iload_n C d_SB_isGood_6 rfl 2 rfl ?_
  refine g_iconst C 1 d_SB_isGood_7 (by decide) ?_
  refine g_icmp_lt C 38 d_SB_isGood_8 (by decide) (fun c3 => ?_) (fun c3 => ?_)
  · have h := h.1 c3
    refine g_iconst C 0 d_SB_isGood_38 (by decide) ?_
    exact g_iret r rfl d_SB_isGood_39 (gBi_mk h)
  · have h := h.2 c3
    refine g_iload_n C d_SB_isGood_11 rfl 2 rfl ?_
    refine g_iconst C 1 d_SB_isGood_12 (by decide) ?_
    refine g_iand C d_SB_isGood_13 ?_
    refine g_iload_n C d_SB_isGood_14 rfl 1 rfl ?_
    refine g_icmp_ne C 38 d_SB_isGood_15 (by decide) (fun c4 => ?_) (fun c4 => ?_)
    · have h := h.1 c4
      refine g_iconst C 0 d_SB_isGood_38 (by decide) ?_
      exact g_iret r rfl d_SB_isGood_39 (gBi_mk h)
    · have h := h.2 c4
      refine g_aload_n C d_SB_isGood_18 rfl 0 rfl ?_
      refine g_get C (v := .ref (ad 1)) 13 0 iw_SB rfl rfl (by decide) (gt 220 (by decide +kernel) rfl) rfl rfl d_SB_isGood_19 ?_
      refine g_iload_n C d_SB_isGood_22 rfl 1 rfl ?_
      refine g_iconst C 0 d_SB_isGood_23 (by decide) ?_
      refine g_callVN (host := "SpillQueue") C (rest := []) 1 (fun l => m_Disk_get X ad a1 0 s1 _ h l) rfl rfl (gn 630 (by decide +kernel) rfl) cb_DK_get ⟨rfl, rfl⟩ (by rw [hRm]; decide) ⟨Nat.zero_le _, Nat.zero_le _⟩ rfl rfl (Nat.le_of_ble_eq_true rfl) d_SB_isGood_24 (gki (fun r6 s5 h => ?_))
      refine g_aload_n C d_SB_isGood_27 rfl 0 rfl ?_
      refine g_get C (v := .ref (ad 1)) 13 0 iw_SB rfl rfl (by decide) (gt 220 (by decide +kernel) rfl) rfl rfl d_SB_isGood_28 ?_
      refine g_iload_n C d_SB_isGood_31 rfl 1 rfl ?_
      refine g_callVN (host := "SpillQueue") C (rest := [.int r6]) 1 (fun l => m_Disk_sumOf X ad a1 s5 _ h l) rfl rfl (gn 631 (by decide +kernel) rfl) cb_DK_sumOf ⟨rfl, rfl⟩ (by rw [hRm]; decide) ⟨Nat.zero_le _, Nat.zero_le _⟩ rfl rfl (Nat.le_of_ble_eq_true rfl) d_SB_isGood_32 (gki (fun r8 s7 h => ?_))
      refine g_icmp_eq C 40 d_SB_isGood_35 (by decide) (fun c9 => ?_) (fun c9 => ?_)
      · have h := h.1 c9
        refine g_aload_n C d_SB_isGood_40 rfl 0 rfl ?_
        refine g_get C (v := .ref (ad 1)) 13 0 iw_SB rfl rfl (by decide) (gt 220 (by decide +kernel) rfl) rfl rfl d_SB_isGood_41 ?_
        refine g_iload_n C d_SB_isGood_44 rfl 1 rfl ?_
        refine g_iconst C 2 d_SB_isGood_45 (by decide) ?_
        refine g_callVN (host := "SpillQueue") C (rest := []) 1 (fun l => m_Disk_get X ad a1 2 s7 _ h l) rfl rfl (gn 630 (by decide +kernel) rfl) cb_DK_get ⟨rfl, rfl⟩ (by rw [hRm]; decide) ⟨Nat.zero_le _, Nat.zero_le _⟩ rfl rfl (Nat.le_of_ble_eq_true rfl) d_SB_isGood_46 (gki (fun r11 s10 h => ?_))
        refine g_istore_n C (lv2 := [(0, .ref (ad 13)), (1, .int a1), (2, .int r2), (3, .int r11)]) d_SB_isGood_49 rfl (by decide) rfl ?_
        refine g_iload_n C d_SB_isGood_50 rfl 3 rfl ?_
        refine g_if_lt C 65 d_SB_isGood_51 (by decide) (fun c12 => ?_) (fun c12 => ?_)
        · have h := h.1 c12
          refine g_iconst C 0 d_SB_isGood_65 (by decide) ?_
          exact g_iret r rfl d_SB_isGood_66 (gBi_mk h)
        · have h := h.2 c12
          refine g_iload_n C d_SB_isGood_54 rfl 3 rfl ?_
          refine g_aload_n C d_SB_isGood_55 rfl 0 rfl ?_
          refine g_get C (v := .ref (ad 1)) 13 0 iw_SB rfl rfl (by decide) (gt 220 (by decide +kernel) rfl) rfl rfl d_SB_isGood_56 ?_
          refine g_callVN (host := "SpillQueue") C (rest := [.int r11]) 1 (fun l => m_Disk_mostRuns X ad  s10 _ h l) rfl rfl (gn 632 (by decide +kernel) rfl) cb_DK_mostRuns ⟨rfl, rfl⟩ (by rw [hRm]; decide) ⟨Nat.zero_le _, Nat.zero_le _⟩ rfl rfl (Nat.le_of_ble_eq_true rfl) d_SB_isGood_59 (gki (fun r14 s13 h => ?_))
          refine g_icmp_le C 67 d_SB_isGood_62 (by decide) (fun c15 => ?_) (fun c15 => ?_)
          · have h := h.1 c15
            refine g_aload_n C d_SB_isGood_67 rfl 0 rfl ?_
            refine g_get C (v := .ref (ad 14)) 13 1 iw_SB rfl rfl (by decide) (gt 221 (by decide +kernel) rfl) rfl rfl d_SB_isGood_68 ?_
            refine g_callVN (host := "SpillQueue") C (rest := []) 14 (fun l => m_BlockSet_clear_14 X ad  s13 _ h l) rfl rfl (gn 633 (by decide +kernel) rfl) cb_BS_clear ⟨rfl, rfl⟩ (by rw [hRm]; decide) ⟨Nat.zero_le _, Nat.zero_le _⟩ rfl rfl (Nat.le_of_ble_eq_true rfl) d_SB_isGood_71 (gkv (fun s16 h => ?_))
            refine g_iconst C 0 d_SB_isGood_74 (by decide) ?_
            refine g_istore C (lv2 := [(0, .ref (ad 13)), (1, .int a1), (2, .int r2), (3, .int r11), (4, .int 0)]) d_SB_isGood_75 (by decide) rfl ?_
            obtain ⟨n23, h⟩ := h
            refine w_Superblocks_isGood_77 X ad Q (_) a1 r2 r11 E C hRm r ?_ n23 0 s16 h
            intro v25 s24 h
            refine g_iconst C 1 d_SB_isGood_105 (by decide) ?_
            exact g_iret r rfl d_SB_isGood_106 (gBi_mk h)
          · have h := h.2 c15
            refine g_iconst C 0 d_SB_isGood_65 (by decide) ?_
            exact g_iret r rfl d_SB_isGood_66 (gBi_mk h)
      · have h := h.2 c9
        refine g_iconst C 0 d_SB_isGood_38 (by decide) ?_
        exact g_iret r rfl d_SB_isGood_39 (gBi_mk h)
theorem m_Superblocks_isGood (X : gX) (ad : Nat → Nat) (a1 : Int32) (s : gS) (Q : Int32 → gS → Prop) (h : wp_Superblocks_isGood a1 s Q) (l : Launch) : gM l X y_SB_isGood b_SB_isGood 5 (some .boolean) rm_Superblocks_isGood [.ref (ad 13), .int a1] (wC ad X s) (gBi (wC ad X) Q) :=
  gM_of (by decide +kernel) rfl (Nat.le_of_ble_eq_true rfl) rfl (fun E C hRm r => w_Superblocks_isGood X ad a1 s Q h E C hRm r)
def rm_Superblocks_newestGood : Room := { frames := 5, cells := 0, slots := 0, locals := 127 }
def wp_Superblocks_newestGood (s : gS) (Q : Int32 → gS → Prop) : Prop := wp_Superblocks_isGood 0 s (fun r2 s1 => wp_Superblocks_isGood 1 s1 (fun r4 s3 => ((r2 = 0 → ((r2 = 0 → ((r4 = 0 → Q (-1) s3) ∧ (¬ r4 = 0 → Q 1 s3))) ∧ (¬ r2 = 0 → Q 0 s3))) ∧ (¬ r2 = 0 → ((r4 = 0 → ((r2 = 0 → ((r4 = 0 → Q (-1) s3) ∧ (¬ r4 = 0 → Q 1 s3))) ∧ (¬ r2 = 0 → Q 0 s3))) ∧ (¬ r4 = 0 → wp_Superblocks_epochOf 0 s3 (fun r12 s11 => wp_Superblocks_epochOf 1 s11 (fun r14 s13 => ((r12 ≤ r14 → Q 1 s13) ∧ (¬ r12 ≤ r14 → Q 0 s13))))))))))
set_option maxHeartbeats 4000000 in
set_option maxRecDepth 100000 in
theorem w_Superblocks_newestGood (X : gX) (ad : Nat → Nat) (s : gS) (Q : Int32 → gS → Prop) (h : wp_Superblocks_newestGood  s Q) (E : gE) (C : gC X E b_SB_newestGood 3 R_SB) (hRm : gRm E = rm_Superblocks_newestGood) (r : gR X E b_SB_newestGood (some .int) (gBi (wC ad X) Q)) : gW X E 0 0 (wC ad X s) [(0, .ref (ad 13))] 0 [] := by
  have h : wp_Superblocks_isGood 0 s (fun r2 s1 => wp_Superblocks_isGood 1 s1 (fun r4 s3 => ((r2 = 0 → ((r2 = 0 → ((r4 = 0 → Q (-1) s3) ∧ (¬ r4 = 0 → Q 1 s3))) ∧ (¬ r2 = 0 → Q 0 s3))) ∧ (¬ r2 = 0 → ((r4 = 0 → ((r2 = 0 → ((r4 = 0 → Q (-1) s3) ∧ (¬ r4 = 0 → Q 1 s3))) ∧ (¬ r2 = 0 → Q 0 s3))) ∧ (¬ r4 = 0 → wp_Superblocks_epochOf 0 s3 (fun r12 s11 => wp_Superblocks_epochOf 1 s11 (fun r14 s13 => ((r12 ≤ r14 → Q 1 s13) ∧ (¬ r12 ≤ r14 → Q 0 s13)))))))))) := h
  refine g_aload_n C d_SB_newestGood_0 rfl 0 rfl ?_
  refine g_iconst C 0 d_SB_newestGood_1 (by decide) ?_
  refine g_callV C (rest := []) 13 (fun l => m_Superblocks_isGood X ad 0 s _ h l) rfl rfl (gt 622 (by decide +kernel) rfl) cb_SB_isGood ⟨rfl, rfl⟩ (by rw [hRm]; decide) ⟨Nat.zero_le _, Nat.zero_le _⟩ rfl rfl (Nat.le_of_ble_eq_true rfl) d_SB_newestGood_2 (gki (fun r2 s1 h => ?_))
  refine g_istore_n C (lv2 := [(0, .ref (ad 13)), (1, .int r2)]) d_SB_newestGood_5 rfl (by decide) rfl ?_
  refine g_aload_n C d_SB_newestGood_6 rfl 0 rfl ?_
  refine g_iconst C 1 d_SB_newestGood_7 (by decide) ?_
  refine g_callV C (rest := []) 13 (fun l => m_Superblocks_isGood X ad 1 s1 _ h l) rfl rfl (gt 622 (by decide +kernel) rfl) cb_SB_isGood ⟨rfl, rfl⟩ (by rw [hRm]; decide) ⟨Nat.zero_le _, Nat.zero_le _⟩ rfl rfl (Nat.le_of_ble_eq_true rfl) d_SB_newestGood_8 (gki (fun r4 s3 h => ?_))
  refine g_istore_n C (lv2 := [(0, .ref (ad 13)), (1, .int r2), (2, .int r4)]) d_SB_newestGood_11 rfl (by decide) rfl ?_
  refine g_iload_n C d_SB_newestGood_12 rfl 1 rfl ?_
  refine g_if_eq C 39 d_SB_newestGood_13 (by decide) (fun c5 => ?_) (fun c5 => ?_)
  · have h := h.1 c5
    refine g_iload_n C d_SB_newestGood_39 rfl 1 rfl ?_
    refine g_if_eq C 45 d_SB_newestGood_40 (by decide) (fun c6 => ?_) (fun c6 => ?_)
    · have h := h.1 c6
      refine g_iload_n C d_SB_newestGood_45 rfl 2 rfl ?_
      refine g_if_eq C 53 d_SB_newestGood_46 (by decide) (fun c7 => ?_) (fun c7 => ?_)
      · have h := h.1 c7
        refine g_iconst C (-1) d_SB_newestGood_53 (by decide) ?_
        exact g_iret r rfl d_SB_newestGood_54 (gBi_mk h)
      · have h := h.2 c7
        refine g_iconst C 1 d_SB_newestGood_49 (by decide) ?_
        refine g_goto C 54 d_SB_newestGood_50 (by decide) ?_
        exact g_iret r rfl d_SB_newestGood_54 (gBi_mk h)
    · have h := h.2 c6
      refine g_iconst C 0 d_SB_newestGood_43 (by decide) ?_
      exact g_iret r rfl d_SB_newestGood_44 (gBi_mk h)
  · have h := h.2 c5
    refine g_iload_n C d_SB_newestGood_16 rfl 2 rfl ?_
    refine g_if_eq C 39 d_SB_newestGood_17 (by decide) (fun c8 => ?_) (fun c8 => ?_)
    · have h := h.1 c8
      refine g_iload_n C d_SB_newestGood_39 rfl 1 rfl ?_
      refine g_if_eq C 45 d_SB_newestGood_40 (by decide) (fun c9 => ?_) (fun c9 => ?_)
      · have h := h.1 c9
        refine g_iload_n C d_SB_newestGood_45 rfl 2 rfl ?_
        refine g_if_eq C 53 d_SB_newestGood_46 (by decide) (fun c10 => ?_) (fun c10 => ?_)
        · have h := h.1 c10
          refine g_iconst C (-1) d_SB_newestGood_53 (by decide) ?_
          exact g_iret r rfl d_SB_newestGood_54 (gBi_mk h)
        · have h := h.2 c10
          refine g_iconst C 1 d_SB_newestGood_49 (by decide) ?_
          refine g_goto C 54 d_SB_newestGood_50 (by decide) ?_
          exact g_iret r rfl d_SB_newestGood_54 (gBi_mk h)
      · have h := h.2 c9
        refine g_iconst C 0 d_SB_newestGood_43 (by decide) ?_
        exact g_iret r rfl d_SB_newestGood_44 (gBi_mk h)
    · have h := h.2 c8
      refine g_aload_n C d_SB_newestGood_20 rfl 0 rfl ?_
      refine g_iconst C 0 d_SB_newestGood_21 (by decide) ?_
      refine g_callV C (rest := []) 13 (fun l => m_Superblocks_epochOf X ad 0 s3 _ h l) rfl rfl (gt 626 (by decide +kernel) rfl) cb_SB_epochOf ⟨rfl, rfl⟩ (by rw [hRm]; decide) ⟨Nat.zero_le _, Nat.zero_le _⟩ rfl rfl (Nat.le_of_ble_eq_true rfl) d_SB_newestGood_22 (gki (fun r12 s11 h => ?_))
      refine g_aload_n C d_SB_newestGood_25 rfl 0 rfl ?_
      refine g_iconst C 1 d_SB_newestGood_26 (by decide) ?_
      refine g_callV C (rest := [.int r12]) 13 (fun l => m_Superblocks_epochOf X ad 1 s11 _ h l) rfl rfl (gt 626 (by decide +kernel) rfl) cb_SB_epochOf ⟨rfl, rfl⟩ (by rw [hRm]; decide) ⟨Nat.zero_le _, Nat.zero_le _⟩ rfl rfl (Nat.le_of_ble_eq_true rfl) d_SB_newestGood_27 (gki (fun r14 s13 h => ?_))
      refine g_icmp_le C 37 d_SB_newestGood_30 (by decide) (fun c15 => ?_) (fun c15 => ?_)
      · have h := h.1 c15
        refine g_iconst C 1 d_SB_newestGood_37 (by decide) ?_
        exact g_iret r rfl d_SB_newestGood_38 (gBi_mk h)
      · have h := h.2 c15
        refine g_iconst C 0 d_SB_newestGood_33 (by decide) ?_
        refine g_goto C 38 d_SB_newestGood_34 (by decide) ?_
        exact g_iret r rfl d_SB_newestGood_38 (gBi_mk h)
theorem m_Superblocks_newestGood (X : gX) (ad : Nat → Nat) (s : gS) (Q : Int32 → gS → Prop) (h : wp_Superblocks_newestGood  s Q) (l : Launch) : gM l X y_SB_newestGood b_SB_newestGood 3 (some .int) rm_Superblocks_newestGood [.ref (ad 13)] (wC ad X s) (gBi (wC ad X) Q) :=
  gM_of (by decide +kernel) rfl (Nat.le_of_ble_eq_true rfl) rfl (fun E C hRm r => w_Superblocks_newestGood X ad  s Q h E C hRm r)
def rm_Superblocks_load_6 : Room := { frames := 2, cells := 0, slots := 0, locals := 46 }
def wl_Superblocks_load_6_18 (Q : gS → Prop) (K : Int32 → gS → Prop) (x1 : Int32) (x3 : Int32) : Nat → Int32 → gS → Prop
  | 0, _, _ => False
  | n + 1, x4, s => ((x3 ≤ x4 → K x4 s) ∧ (¬ x3 ≤ x4 → ∀ v5 : Int32, v5 = 3 + (x4 * 4) → wp_Disk_get x1 (v5 + 0) s (fun r7 s6 => wp_Disk_get x1 (v5 + 1) s6 (fun r9 s8 => wp_Disk_get x1 (v5 + 2) s8 (fun r11 s10 => wp_Disk_get x1 (v5 + 3) s10 (fun r13 s12 => wp_Runs_add r7 r9 r11 r13 s12 (fun s14 => ∀ v16 : Int32, v16 = x4 + 1 → wl_Superblocks_load_6_18 Q K x1 x3 n v16 s14)))))))
set_option maxHeartbeats 4000000 in
set_option maxRecDepth 100000 in
theorem w_Superblocks_load_6_18 (X : gX) (ad : Nat → Nat) (Q : gS → Prop) (K : Int32 → gS → Prop) (x1 : Int32) (x3 : Int32) (E : gE) (C : gC X E b_SB_load 6 R_SB) (hRm : gRm E = rm_Superblocks_load_6) (r : gR X E b_SB_load none (gBv (wC ad X) Q)) (hK : ∀ (x4 : Int32) (s : gS), K x4 s → gW X E 0 0 (wC ad X s) [(0, .ref (ad 13)), (1, .int x1), (2, .ref (ad 6)), (3, .int x3), (4, .int x4)] 90 []) : ∀ (n : Nat) (x4 : Int32) (s : gS), wl_Superblocks_load_6_18 Q K x1 x3 n x4 s → gW X E 0 0 (wC ad X s) [(0, .ref (ad 13)), (1, .int x1), (2, .ref (ad 6)), (3, .int x3), (4, .int x4)] 18 [] := by
  intro n
  induction n with
  | zero => intro x4 s h; exact False.elim h
  | succ n ih =>
    intro x4 s h
    have h : ((x3 ≤ x4 → K x4 s) ∧ (¬ x3 ≤ x4 → ∀ v5 : Int32, v5 = 3 + (x4 * 4) → wp_Disk_get x1 (v5 + 0) s (fun r7 s6 => wp_Disk_get x1 (v5 + 1) s6 (fun r9 s8 => wp_Disk_get x1 (v5 + 2) s8 (fun r11 s10 => wp_Disk_get x1 (v5 + 3) s10 (fun r13 s12 => wp_Runs_add r7 r9 r11 r13 s12 (fun s14 => ∀ v16 : Int32, v16 = x4 + 1 → wl_Superblocks_load_6_18 Q K x1 x3 n v16 s14))))))) := h
    refine g_iload C d_SB_load_18 4 rfl ?_
    refine g_iload_n C d_SB_load_20 rfl 3 rfl ?_
    refine g_icmp_ge C 90 d_SB_load_21 (by decide) (fun c4 => ?_) (fun c4 => ?_)
    · have h := h.1 c4
      exact hK x4 s h
    · have h := h.2 c4
      refine g_iconst C 3 d_SB_load_24 (by decide) ?_
      refine g_iload C d_SB_load_25 4 rfl ?_
      refine g_iconst C 4 d_SB_load_27 (by decide) ?_
      refine g_imul C d_SB_load_28 ?_
      refine g_iadd C d_SB_load_29 ?_
      refine g_topi (fun v5 e_v5 => ?_)
      have h := h v5 e_v5
      refine g_istore C (lv2 := [(0, .ref (ad 13)), (1, .int x1), (2, .ref (ad 6)), (3, .int x3), (4, .int x4), (5, .int v5)]) d_SB_load_30 (by decide) rfl ?_
      refine g_aload_n C d_SB_load_32 rfl 2 rfl ?_
      refine g_aload_n C d_SB_load_33 rfl 0 rfl ?_
      refine g_get C (v := .ref (ad 1)) 13 0 iw_SB rfl rfl (by decide) (gt 220 (by decide +kernel) rfl) rfl rfl d_SB_load_34 ?_
      refine g_iload_n C d_SB_load_37 rfl 1 rfl ?_
      refine g_iload C d_SB_load_38 5 rfl ?_
      refine g_iconst C 0 d_SB_load_40 (by decide) ?_
      refine g_iadd C d_SB_load_41 ?_
      refine g_callVN (host := "SpillQueue") C (rest := [.ref (ad 6)]) 1 (fun l => m_Disk_get X ad x1 (v5 + 0) s _ h l) rfl rfl (gn 630 (by decide +kernel) rfl) cb_DK_get ⟨rfl, rfl⟩ (by rw [hRm]; decide) ⟨Nat.zero_le _, Nat.zero_le _⟩ rfl rfl (Nat.le_of_ble_eq_true rfl) d_SB_load_42 (gki (fun r7 s6 h => ?_))
      refine g_aload_n C d_SB_load_45 rfl 0 rfl ?_
      refine g_get C (v := .ref (ad 1)) 13 0 iw_SB rfl rfl (by decide) (gt 220 (by decide +kernel) rfl) rfl rfl d_SB_load_46 ?_
      refine g_iload_n C d_SB_load_49 rfl 1 rfl ?_
      refine g_iload C d_SB_load_50 5 rfl ?_
      refine g_iconst C 1 d_SB_load_52 (by decide) ?_
      refine g_iadd C d_SB_load_53 ?_
      refine g_callVN (host := "SpillQueue") C (rest := [.int r7, .ref (ad 6)]) 1 (fun l => m_Disk_get X ad x1 (v5 + 1) s6 _ h l) rfl rfl (gn 630 (by decide +kernel) rfl) cb_DK_get ⟨rfl, rfl⟩ (by rw [hRm]; decide) ⟨Nat.zero_le _, Nat.zero_le _⟩ rfl rfl (Nat.le_of_ble_eq_true rfl) d_SB_load_54 (gki (fun r9 s8 h => ?_))
      refine g_aload_n C d_SB_load_57 rfl 0 rfl ?_
      refine g_get C (v := .ref (ad 1)) 13 0 iw_SB rfl rfl (by decide) (gt 220 (by decide +kernel) rfl) rfl rfl d_SB_load_58 ?_
      refine g_iload_n C d_SB_load_61 rfl 1 rfl ?_
      refine g_iload C d_SB_load_62 5 rfl ?_
      refine g_iconst C 2 d_SB_load_64 (by decide) ?_
      refine g_iadd C d_SB_load_65 ?_
      refine g_callVN (host := "SpillQueue") C (rest := [.int r9, .int r7, .ref (ad 6)]) 1 (fun l => m_Disk_get X ad x1 (v5 + 2) s8 _ h l) rfl rfl (gn 630 (by decide +kernel) rfl) cb_DK_get ⟨rfl, rfl⟩ (by rw [hRm]; decide) ⟨Nat.zero_le _, Nat.zero_le _⟩ rfl rfl (Nat.le_of_ble_eq_true rfl) d_SB_load_66 (gki (fun r11 s10 h => ?_))
      refine g_aload_n C d_SB_load_69 rfl 0 rfl ?_
      refine g_get C (v := .ref (ad 1)) 13 0 iw_SB rfl rfl (by decide) (gt 220 (by decide +kernel) rfl) rfl rfl d_SB_load_70 ?_
      refine g_iload_n C d_SB_load_73 rfl 1 rfl ?_
      refine g_iload C d_SB_load_74 5 rfl ?_
      refine g_iconst C 3 d_SB_load_76 (by decide) ?_
      refine g_iadd C d_SB_load_77 ?_
      refine g_callVN (host := "SpillQueue") C (rest := [.int r11, .int r9, .int r7, .ref (ad 6)]) 1 (fun l => m_Disk_get X ad x1 (v5 + 3) s10 _ h l) rfl rfl (gn 630 (by decide +kernel) rfl) cb_DK_get ⟨rfl, rfl⟩ (by rw [hRm]; decide) ⟨Nat.zero_le _, Nat.zero_le _⟩ rfl rfl (Nat.le_of_ble_eq_true rfl) d_SB_load_78 (gki (fun r13 s12 h => ?_))
      refine g_callVN (host := "SpillQueue") C (rest := []) 6 (fun l => m_Runs_add X ad r7 r9 r11 r13 s12 _ h l) rfl rfl (gn 659 (by decide +kernel) rfl) cb_RU_add ⟨rfl, rfl⟩ (by rw [hRm]; decide) ⟨Nat.zero_le _, Nat.zero_le _⟩ rfl rfl (Nat.le_of_ble_eq_true rfl) d_SB_load_81 (gkv (fun s14 h => ?_))
      obtain ⟨v16, e_v16⟩ : ∃ y : Int32, y = x4 + 1 := ⟨_, rfl⟩
      have h := h v16 e_v16
      refine g_iinc C (v := v16) (lv2 := [(0, .ref (ad 13)), (1, .int x1), (2, .ref (ad 6)), (3, .int x3), (4, .int v16), (5, .int v5)]) d_SB_load_84 4 rfl (by rw [e_v16]; rfl) (by decide) rfl ?_
      refine g_goto C 18 d_SB_load_87 (by decide) ?_
      refine g_lv C [0, 1, 2, 3, 4] rfl ?_
      exact ih v16 s14 h
def wp_Superblocks_load_6 (a1 : Int32) (s : gS) (Q : gS → Prop) : Prop := wp_Disk_get a1 2 s (fun r2 s1 => ∀ v3 : Int32, v3 = (if 9 < r2 then 9 else r2) → ∃ n17 : Nat, wl_Superblocks_load_6_18 Q (fun v19 s18 => Q s18) a1 v3 n17 0 s1)
set_option maxHeartbeats 4000000 in
set_option maxRecDepth 100000 in
theorem w_Superblocks_load_6 (X : gX) (ad : Nat → Nat) (a1 : Int32) (s : gS) (Q : gS → Prop) (h : wp_Superblocks_load_6 a1 s Q) (E : gE) (C : gC X E b_SB_load 6 R_SB) (hRm : gRm E = rm_Superblocks_load_6) (r : gR X E b_SB_load none (gBv (wC ad X) Q)) : gW X E 0 0 (wC ad X s) [(0, .ref (ad 13)), (1, .int a1), (2, .ref (ad 6))] 0 [] := by
  have h : wp_Disk_get a1 2 s (fun r2 s1 => ∀ v3 : Int32, v3 = (if 9 < r2 then 9 else r2) → ∃ n17 : Nat, wl_Superblocks_load_6_18 Q (fun v19 s18 => Q s18) a1 v3 n17 0 s1) := h
  refine g_aload_n C d_SB_load_0 rfl 0 rfl ?_
  refine g_get C (v := .ref (ad 1)) 13 0 iw_SB rfl rfl (by decide) (gt 220 (by decide +kernel) rfl) rfl rfl d_SB_load_1 ?_
  refine g_iload_n C d_SB_load_4 rfl 1 rfl ?_
  refine g_iconst C 2 d_SB_load_5 (by decide) ?_
  refine g_callVN (host := "SpillQueue") C (rest := []) 1 (fun l => m_Disk_get X ad a1 2 s _ h l) rfl rfl (gn 630 (by decide +kernel) rfl) cb_DK_get ⟨rfl, rfl⟩ (by rw [hRm]; decide) ⟨Nat.zero_le _, Nat.zero_le _⟩ rfl rfl (Nat.le_of_ble_eq_true rfl) d_SB_load_6 (gki (fun r2 s1 h => ?_))
  refine g_bipush C 9 d_SB_load_9 (by decide) ?_
  refine g_mmin C (gt 650 (by decide +kernel) rfl) (gt 501 (by decide +kernel) rfl) (gt 102 (by decide +kernel) rfl) (gt 502 rfl rfl) (by rw [hRm]; decide) ⟨Nat.zero_le _, Nat.zero_le _⟩ d_SB_load_11 ?_
  refine g_topi (fun v3 e_v3 => ?_)
  have h := h v3 e_v3
  refine g_istore_n C (lv2 := [(0, .ref (ad 13)), (1, .int a1), (2, .ref (ad 6)), (3, .int v3)]) d_SB_load_14 rfl (by decide) rfl ?_
  refine g_iconst C 0 d_SB_load_15 (by decide) ?_
  refine g_istore C (lv2 := [(0, .ref (ad 13)), (1, .int a1), (2, .ref (ad 6)), (3, .int v3), (4, .int 0)]) d_SB_load_16 (by decide) rfl ?_
  obtain ⟨n17, h⟩ := h
  refine w_Superblocks_load_6_18 X ad Q (_) a1 v3 E C hRm r ?_ n17 0 s1 h
  intro v19 s18 h
  exact g_vret r d_SB_load_90 (gBv_mk h)
theorem m_Superblocks_load_6 (X : gX) (ad : Nat → Nat) (a1 : Int32) (s : gS) (Q : gS → Prop) (h : wp_Superblocks_load_6 a1 s Q) (l : Launch) : gM l X y_SB_load b_SB_load 6 none rm_Superblocks_load_6 [.ref (ad 13), .int a1, .ref (ad 6)] (wC ad X s) (gBv (wC ad X) Q) :=
  gM_of (by decide +kernel) rfl (Nat.le_of_ble_eq_true rfl) rfl (fun E C hRm r => w_Superblocks_load_6 X ad a1 s Q h E C hRm r)
def rm_Runs_keysInAll : Room := { frames := 0, cells := 0, slots := 0, locals := 0 }
def wl_Runs_keysInAll_4 (Q : Int32 → gS → Prop) (K : Int32 → Int32 → gS → Prop) : Nat → Int32 → Int32 → gS → Prop
  | 0, _, _, _ => False
  | n + 1, x1, x2, s => (((s.1 9) ≤ x2 → K x1 x2 s) ∧ (¬ (s.1 9) ≤ x2 → vp_in x2 9 ∧ (∀ v3 : Int32, v3 = x1 + (s.2 5 x2.toNatClampNeg) → ∀ v4 : Int32, v4 = x2 + 1 → wl_Runs_keysInAll_4 Q K n v3 v4 s)))
set_option maxHeartbeats 4000000 in
set_option maxRecDepth 100000 in
theorem w_Runs_keysInAll_4 (X : gX) (ad : Nat → Nat) (Q : Int32 → gS → Prop) (K : Int32 → Int32 → gS → Prop) (E : gE) (C : gC X E b_RU_keysInAll 3 R_RU) (hRm : gRm E = rm_Runs_keysInAll) (r : gR X E b_RU_keysInAll (some .int) (gBi (wC ad X) Q)) (hK : ∀ (x1 : Int32) (x2 : Int32) (s : gS), K x1 x2 s → gW X E 0 0 (wC ad X s) [(0, .ref (ad 6)), (1, .int x1), (2, .int x2)] 27 []) : ∀ (n : Nat) (x1 : Int32) (x2 : Int32) (s : gS), wl_Runs_keysInAll_4 Q K n x1 x2 s → gW X E 0 0 (wC ad X s) [(0, .ref (ad 6)), (1, .int x1), (2, .int x2)] 4 [] := by
  intro n
  induction n with
  | zero => intro x1 x2 s h; exact False.elim h
  | succ n ih =>
    intro x1 x2 s h
    have h : (((s.1 9) ≤ x2 → K x1 x2 s) ∧ (¬ (s.1 9) ≤ x2 → vp_in x2 9 ∧ (∀ v3 : Int32, v3 = x1 + (s.2 5 x2.toNatClampNeg) → ∀ v4 : Int32, v4 = x2 + 1 → wl_Runs_keysInAll_4 Q K n v3 v4 s))) := h
    refine g_iload_n C d_RU_keysInAll_4 rfl 2 rfl ?_
    refine g_aload_n C d_RU_keysInAll_5 rfl 0 rfl ?_
    refine g_get C (v := .int (s.1 9)) 6 7 iw_RU rfl rfl (by decide) (gt 183 (by decide +kernel) rfl) rfl rfl d_RU_keysInAll_6 ?_
    refine g_icmp_ge C 27 d_RU_keysInAll_9 (by decide) (fun c1 => ?_) (fun c1 => ?_)
    · have h := h.1 c1
      exact hK x1 x2 s h
    · have h := h.2 c1
      refine g_iload_n C d_RU_keysInAll_12 rfl 1 rfl ?_
      refine g_aload_n C d_RU_keysInAll_13 rfl 0 rfl ?_
      refine g_get C (v := .ref (ad 9)) 6 3 iw_RU rfl rfl (by decide) (gt 175 (by decide +kernel) rfl) rfl rfl d_RU_keysInAll_14 ?_
      refine g_iload_n C d_RU_keysInAll_17 rfl 2 rfl ?_
      obtain ⟨i2, h⟩ := h
      refine g_iald C 9 0 rfl rfl i2 d_RU_keysInAll_18 ?_
      refine g_iadd C d_RU_keysInAll_19 ?_
      refine g_topi (fun v3 e_v3 => ?_)
      have h := h v3 e_v3
      refine g_istore_n C (lv2 := [(0, .ref (ad 6)), (1, .int v3), (2, .int x2)]) d_RU_keysInAll_20 rfl (by decide) rfl ?_
      obtain ⟨v4, e_v4⟩ : ∃ y : Int32, y = x2 + 1 := ⟨_, rfl⟩
      have h := h v4 e_v4
      refine g_iinc C (v := v4) (lv2 := [(0, .ref (ad 6)), (1, .int v3), (2, .int v4)]) d_RU_keysInAll_21 2 rfl (by rw [e_v4]; rfl) (by decide) rfl ?_
      refine g_goto C 4 d_RU_keysInAll_24 (by decide) ?_
      exact ih v3 v4 s h
def wp_Runs_keysInAll (s : gS) (Q : Int32 → gS → Prop) : Prop := ∃ n5 : Nat, wl_Runs_keysInAll_4 Q (fun v7 v8 s6 => Q v7 s6)  n5 0 0 s
set_option maxHeartbeats 4000000 in
set_option maxRecDepth 100000 in
theorem w_Runs_keysInAll (X : gX) (ad : Nat → Nat) (s : gS) (Q : Int32 → gS → Prop) (h : wp_Runs_keysInAll  s Q) (E : gE) (C : gC X E b_RU_keysInAll 3 R_RU) (hRm : gRm E = rm_Runs_keysInAll) (r : gR X E b_RU_keysInAll (some .int) (gBi (wC ad X) Q)) : gW X E 0 0 (wC ad X s) [(0, .ref (ad 6))] 0 [] := by
  have h : ∃ n5 : Nat, wl_Runs_keysInAll_4 Q (fun v7 v8 s6 => Q v7 s6)  n5 0 0 s := h
  refine g_iconst C 0 d_RU_keysInAll_0 (by decide) ?_
  refine g_istore_n C (lv2 := [(0, .ref (ad 6)), (1, .int 0)]) d_RU_keysInAll_1 rfl (by decide) rfl ?_
  refine g_iconst C 0 d_RU_keysInAll_2 (by decide) ?_
  refine g_istore_n C (lv2 := [(0, .ref (ad 6)), (1, .int 0), (2, .int 0)]) d_RU_keysInAll_3 rfl (by decide) rfl ?_
  obtain ⟨n5, h⟩ := h
  refine w_Runs_keysInAll_4 X ad Q (_)  E C hRm r ?_ n5 0 0 s h
  intro v7 v8 s6 h
  refine g_iload_n C d_RU_keysInAll_27 rfl 1 rfl ?_
  exact g_iret r rfl d_RU_keysInAll_28 (gBi_mk h)
theorem m_Runs_keysInAll (X : gX) (ad : Nat → Nat) (s : gS) (Q : Int32 → gS → Prop) (h : wp_Runs_keysInAll  s Q) (l : Launch) : gM l X y_RU_keysInAll b_RU_keysInAll 3 (some .int) rm_Runs_keysInAll [.ref (ad 6)] (wC ad X s) (gBi (wC ad X) Q) :=
  gM_of (by decide +kernel) rfl (Nat.le_of_ble_eq_true rfl) rfl (fun E C hRm r => w_Runs_keysInAll X ad  s Q h E C hRm r)
def rm_SpillQueue_size : Room := { frames := 1, cells := 0, slots := 0, locals := 22 }
def wp_SpillQueue_size (s : gS) (Q : Int32 → gS → Prop) : Prop := (((s.1 2) = 0 → Q 0 s) ∧ (¬ (s.1 2) = 0 → wp_Memory_howMany s (fun r3 s2 => wp_Runs_keysInAll s2 (fun r5 s4 => Q (r3 + r5) s4))))
set_option maxHeartbeats 4000000 in
set_option maxRecDepth 100000 in
theorem w_SpillQueue_size (X : gX) (ad : Nat → Nat) (s : gS) (Q : Int32 → gS → Prop) (h : wp_SpillQueue_size  s Q) (E : gE) (C : gC X E b_SQ_size 1 R_SQ) (hRm : gRm E = rm_SpillQueue_size) (r : gR X E b_SQ_size (some .int) (gBi (wC ad X) Q)) : gW X E 0 0 (wC ad X s) [(0, .ref (ad 0))] 0 [] := by
  have h : (((s.1 2) = 0 → Q 0 s) ∧ (¬ (s.1 2) = 0 → wp_Memory_howMany s (fun r3 s2 => wp_Runs_keysInAll s2 (fun r5 s4 => Q (r3 + r5) s4)))) := h
  refine g_aload_n C d_SQ_size_0 rfl 0 rfl ?_
  refine g_get C (v := .int (s.1 2)) 0 9 iw_SQ rfl rfl (by decide) (gt 238 (by decide +kernel) rfl) rfl rfl d_SQ_size_1 ?_
  refine g_if_eq C 25 d_SQ_size_4 (by decide) (fun c1 => ?_) (fun c1 => ?_)
  · have h := h.1 c1
    refine g_iconst C 0 d_SQ_size_25 (by decide) ?_
    exact g_iret r rfl d_SQ_size_26 (gBi_mk h)
  · have h := h.2 c1
    refine g_aload_n C d_SQ_size_7 rfl 0 rfl ?_
    refine g_get C (v := .ref (ad 4)) 0 1 iw_SQ rfl rfl (by decide) (gt 230 (by decide +kernel) rfl) rfl rfl d_SQ_size_8 ?_
    refine g_callV C (rest := []) 4 (fun l => m_Memory_howMany X ad  s _ h l) rfl rfl (gt 264 (by decide +kernel) rfl) cb_ME_howMany ⟨rfl, rfl⟩ (by rw [hRm]; decide) ⟨Nat.zero_le _, Nat.zero_le _⟩ rfl rfl (Nat.le_of_ble_eq_true rfl) d_SQ_size_11 (gki (fun r3 s2 h => ?_))
    refine g_aload_n C d_SQ_size_14 rfl 0 rfl ?_
    refine g_get C (v := .ref (ad 6)) 0 2 iw_SQ rfl rfl (by decide) (gt 231 (by decide +kernel) rfl) rfl rfl d_SQ_size_15 ?_
    refine g_callVN (host := "SpillQueue") C (rest := [.int r3]) 6 (fun l => m_Runs_keysInAll X ad  s2 _ h l) rfl rfl (gn 268 (by decide +kernel) rfl) cb_RU_keysInAll ⟨rfl, rfl⟩ (by rw [hRm]; decide) ⟨Nat.zero_le _, Nat.zero_le _⟩ rfl rfl (Nat.le_of_ble_eq_true rfl) d_SQ_size_18 (gki (fun r5 s4 h => ?_))
    refine g_iadd C d_SQ_size_21 ?_
    refine g_goto C 26 d_SQ_size_22 (by decide) ?_
    exact g_iret r rfl d_SQ_size_26 (gBi_mk h)
theorem m_SpillQueue_size (X : gX) (ad : Nat → Nat) (s : gS) (Q : Int32 → gS → Prop) (h : wp_SpillQueue_size  s Q) (l : Launch) : gM l X y_SQ_size b_SQ_size 1 (some .int) rm_SpillQueue_size [.ref (ad 0)] (wC ad X s) (gBi (wC ad X) Q) :=
  gM_of (by decide +kernel) rfl (Nat.le_of_ble_eq_true rfl) rfl (fun E C hRm r => w_SpillQueue_size X ad  s Q h E C hRm r)
def rm_Disk_has : Room := { frames := 0, cells := 0, slots := 0, locals := 0 }
def wp_Disk_has (a1 : Int32) (a2 : Int32) (s : gS) (Q : Int32 → gS → Prop) : Prop := ((a1 < 0 → Q 0 s) ∧ (¬ a1 < 0 → (((s.1 3) ≤ a1 → Q 0 s) ∧ (¬ (s.1 3) ≤ a1 → ((a2 < 0 → Q 0 s) ∧ (¬ a2 < 0 → (((s.1 4) ≤ a2 → Q 0 s) ∧ (¬ (s.1 4) ≤ a2 → Q 1 s))))))))
set_option maxHeartbeats 4000000 in
set_option maxRecDepth 100000 in
theorem w_Disk_has (X : gX) (ad : Nat → Nat) (a1 : Int32) (a2 : Int32) (s : gS) (Q : Int32 → gS → Prop) (h : wp_Disk_has a1 a2 s Q) (E : gE) (C : gC X E b_DK_has 3 R_DK) (hRm : gRm E = rm_Disk_has) (r : gR X E b_DK_has (some .boolean) (gBi (wC ad X) Q)) : gW X E 0 0 (wC ad X s) [(0, .ref (ad 1)), (1, .int a1), (2, .int a2)] 0 [] := by
  have h : ((a1 < 0 → Q 0 s) ∧ (¬ a1 < 0 → (((s.1 3) ≤ a1 → Q 0 s) ∧ (¬ (s.1 3) ≤ a1 → ((a2 < 0 → Q 0 s) ∧ (¬ a2 < 0 → (((s.1 4) ≤ a2 → Q 0 s) ∧ (¬ (s.1 4) ≤ a2 → Q 1 s)))))))) := h
  refine g_iload_n C d_DK_has_0 rfl 1 rfl ?_
  refine g_if_lt C 28 d_DK_has_1 (by decide) (fun c1 => ?_) (fun c1 => ?_)
  · have h := h.1 c1
    refine g_iconst C 0 d_DK_has_28 (by decide) ?_
    exact g_iret r rfl d_DK_has_29 (gBi_mk h)
  · have h := h.2 c1
    refine g_iload_n C d_DK_has_4 rfl 1 rfl ?_
    refine g_aload_n C d_DK_has_5 rfl 0 rfl ?_
    refine g_get C (v := .int (s.1 3)) 1 2 iw_DK rfl rfl (by decide) (gt 120 (by decide +kernel) rfl) rfl rfl d_DK_has_6 ?_
    refine g_icmp_ge C 28 d_DK_has_9 (by decide) (fun c2 => ?_) (fun c2 => ?_)
    · have h := h.1 c2
      refine g_iconst C 0 d_DK_has_28 (by decide) ?_
      exact g_iret r rfl d_DK_has_29 (gBi_mk h)
    · have h := h.2 c2
      refine g_iload_n C d_DK_has_12 rfl 2 rfl ?_
      refine g_if_lt C 28 d_DK_has_13 (by decide) (fun c3 => ?_) (fun c3 => ?_)
      · have h := h.1 c3
        refine g_iconst C 0 d_DK_has_28 (by decide) ?_
        exact g_iret r rfl d_DK_has_29 (gBi_mk h)
      · have h := h.2 c3
        refine g_iload_n C d_DK_has_16 rfl 2 rfl ?_
        refine g_aload_n C d_DK_has_17 rfl 0 rfl ?_
        refine g_get C (v := .int (s.1 4)) 1 3 iw_DK rfl rfl (by decide) (gt 123 (by decide +kernel) rfl) rfl rfl d_DK_has_18 ?_
        refine g_icmp_ge C 28 d_DK_has_21 (by decide) (fun c4 => ?_) (fun c4 => ?_)
        · have h := h.1 c4
          refine g_iconst C 0 d_DK_has_28 (by decide) ?_
          exact g_iret r rfl d_DK_has_29 (gBi_mk h)
        · have h := h.2 c4
          refine g_iconst C 1 d_DK_has_24 (by decide) ?_
          refine g_goto C 29 d_DK_has_25 (by decide) ?_
          exact g_iret r rfl d_DK_has_29 (gBi_mk h)
theorem m_Disk_has (X : gX) (ad : Nat → Nat) (a1 : Int32) (a2 : Int32) (s : gS) (Q : Int32 → gS → Prop) (h : wp_Disk_has a1 a2 s Q) (l : Launch) : gM l X y_DK_has b_DK_has 3 (some .boolean) rm_Disk_has [.ref (ad 1), .int a1, .int a2] (wC ad X s) (gBi (wC ad X) Q) :=
  gM_of (by decide +kernel) rfl (Nat.le_of_ble_eq_true rfl) rfl (fun E C hRm r => w_Disk_has X ad a1 a2 s Q h E C hRm r)
