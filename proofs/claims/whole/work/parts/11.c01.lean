def rm_BlockSet_add_16 : Room := { frames := 0, cells := 0, slots := 0, locals := 0 }
def wp_BlockSet_add_16 (a1 : Int32) (s : gS) (Q : gS → Prop) : Prop := ((a1 < 0 → Q s) ∧ (¬ a1 < 0 → ((200 ≤ a1 → Q s) ∧ (¬ 200 ≤ a1 → vp_in a1 200 ∧ (Q (s.1, ua s.2 10 (upd (s.2 10) a1.toNatClampNeg (vp_nar .boolean 1))))))))
set_option maxHeartbeats 4000000 in
set_option maxRecDepth 100000 in
theorem w_BlockSet_add_16 (X : gX) (ad : Nat → Nat) (a1 : Int32) (s : gS) (Q : gS → Prop) (h : wp_BlockSet_add_16 a1 s Q) (E : gE) (C : gC X E b_BS_add 2 R_BS) (hRm : gRm E = rm_BlockSet_add_16) (r : gR X E b_BS_add none (gBv (wC ad X) Q)) : gW X E 0 0 (wC ad X s) [(0, .ref (ad 16)), (1, .int a1)] 0 [] := by
  have h : ((a1 < 0 → Q s) ∧ (¬ a1 < 0 → ((200 ≤ a1 → Q s) ∧ (¬ 200 ≤ a1 → vp_in a1 200 ∧ (Q (s.1, ua s.2 10 (upd (s.2 10) a1.toNatClampNeg (vp_nar .boolean 1)))))))) := h
  refine g_iload_n C d_BS_add_0 rfl 1 rfl ?_
  refine g_if_lt C 20 d_BS_add_1 (by decide) (fun c1 => ?_) (fun c1 => ?_)
  · have h := h.1 c1
    exact g_vret r d_BS_add_20 (gBv_mk h)
  · have h := h.2 c1
    refine g_iload_n C d_BS_add_4 rfl 1 rfl ?_
    refine g_aload_n C d_BS_add_5 rfl 0 rfl ?_
    refine g_get C (v := .ref (ad 17)) 16 0 iw_BS rfl rfl (by decide) (gt 216 (by decide +kernel) rfl) rfl rfl d_BS_add_6 ?_
    refine g_alen C 17 1 200 rfl rfl rfl d_BS_add_9 ?_
    refine g_icmp_ge C 20 d_BS_add_10 (by decide) (fun c2 => ?_) (fun c2 => ?_)
    · have h := h.1 c2
      exact g_vret r d_BS_add_20 (gBv_mk h)
    · have h := h.2 c2
      refine g_aload_n C d_BS_add_13 rfl 0 rfl ?_
      refine g_get C (v := .ref (ad 17)) 16 0 iw_BS rfl rfl (by decide) (gt 216 (by decide +kernel) rfl) rfl rfl d_BS_add_14 ?_
      refine g_iload_n C d_BS_add_17 rfl 1 rfl ?_
      refine g_iconst C 1 d_BS_add_18 (by decide) ?_
      obtain ⟨i3, h⟩ := h
      refine g_zast C 17 1 (ws2 := wC ad X (s.1, ua s.2 10 (upd (s.2 10) a1.toNatClampNeg (vp_nar .boolean 1)))) rfl rfl i3 rfl d_BS_add_19 ?_
      exact g_vret r d_BS_add_20 (gBv_mk h)
theorem m_BlockSet_add_16 (X : gX) (ad : Nat → Nat) (a1 : Int32) (s : gS) (Q : gS → Prop) (h : wp_BlockSet_add_16 a1 s Q) (l : Launch) : gM l X y_BS_add b_BS_add 2 none rm_BlockSet_add_16 [.ref (ad 16), .int a1] (wC ad X s) (gBv (wC ad X) Q) :=
  gM_of (by decide +kernel) rfl (Nat.le_of_ble_eq_true rfl) rfl (fun E C hRm r => w_BlockSet_add_16 X ad a1 s Q h E C hRm r)
def rm_Disk_get : Room := { frames := 0, cells := 0, slots := 0, locals := 0 }
def wp_Disk_get (a1 : Int32) (a2 : Int32) (s : gS) (Q : Int32 → gS → Prop) : Prop := ((a1 < 0 → Q 0 s) ∧ (¬ a1 < 0 → (((s.1 3) ≤ a1 → Q 0 s) ∧ (¬ (s.1 3) ≤ a1 → ((a2 < 0 → Q 0 s) ∧ (¬ a2 < 0 → ((a2 < (s.1 4) → vp_in ((a1 * (s.1 4)) + a2) 8000 ∧ (Q (s.2 0 ((a1 * (s.1 4)) + a2).toNatClampNeg) s)) ∧ (¬ a2 < (s.1 4) → Q 0 s))))))))
set_option maxHeartbeats 4000000 in
set_option maxRecDepth 100000 in
theorem w_Disk_get (X : gX) (ad : Nat → Nat) (a1 : Int32) (a2 : Int32) (s : gS) (Q : Int32 → gS → Prop) (h : wp_Disk_get a1 a2 s Q) (E : gE) (C : gC X E b_DK_get 3 R_DK) (hRm : gRm E = rm_Disk_get) (r : gR X E b_DK_get (some .int) (gBi (wC ad X) Q)) : gW X E 0 0 (wC ad X s) [(0, .ref (ad 1)), (1, .int a1), (2, .int a2)] 0 [] := by
  have h : ((a1 < 0 → Q 0 s) ∧ (¬ a1 < 0 → (((s.1 3) ≤ a1 → Q 0 s) ∧ (¬ (s.1 3) ≤ a1 → ((a2 < 0 → Q 0 s) ∧ (¬ a2 < 0 → ((a2 < (s.1 4) → vp_in ((a1 * (s.1 4)) + a2) 8000 ∧ (Q (s.2 0 ((a1 * (s.1 4)) + a2).toNatClampNeg) s)) ∧ (¬ a2 < (s.1 4) → Q 0 s)))))))) := h
  refine g_iload_n C d_DK_get_0 rfl 1 rfl ?_
  refine g_if_lt C 24 d_DK_get_1 (by decide) (fun c1 => ?_) (fun c1 => ?_)
  · have h := h.1 c1
    refine g_iconst C 0 d_DK_get_24 (by decide) ?_
    exact g_iret r rfl d_DK_get_25 (gBi_mk h)
  · have h := h.2 c1
    refine g_iload_n C d_DK_get_4 rfl 1 rfl ?_
    refine g_aload_n C d_DK_get_5 rfl 0 rfl ?_
    refine g_get C (v := .int (s.1 3)) 1 2 iw_DK rfl rfl (by decide) (gt 120 (by decide +kernel) rfl) rfl rfl d_DK_get_6 ?_
    refine g_icmp_ge C 24 d_DK_get_9 (by decide) (fun c2 => ?_) (fun c2 => ?_)
    · have h := h.1 c2
      refine g_iconst C 0 d_DK_get_24 (by decide) ?_
      exact g_iret r rfl d_DK_get_25 (gBi_mk h)
    · have h := h.2 c2
      refine g_iload_n C d_DK_get_12 rfl 2 rfl ?_
      refine g_if_lt C 24 d_DK_get_13 (by decide) (fun c3 => ?_) (fun c3 => ?_)
      · have h := h.1 c3
        refine g_iconst C 0 d_DK_get_24 (by decide) ?_
        exact g_iret r rfl d_DK_get_25 (gBi_mk h)
      · have h := h.2 c3
        refine g_iload_n C d_DK_get_16 rfl 2 rfl ?_
        refine g_aload_n C d_DK_get_17 rfl 0 rfl ?_
        refine g_get C (v := .int (s.1 4)) 1 3 iw_DK rfl rfl (by decide) (gt 123 (by decide +kernel) rfl) rfl rfl d_DK_get_18 ?_
        refine g_icmp_lt C 26 d_DK_get_21 (by decide) (fun c4 => ?_) (fun c4 => ?_)
        · have h := h.1 c4
          refine g_aload_n C d_DK_get_26 rfl 0 rfl ?_
          refine g_get C (v := .ref (ad 2)) 1 0 iw_DK rfl rfl (by decide) (gt 118 (by decide +kernel) rfl) rfl rfl d_DK_get_27 ?_
          refine g_iload_n C d_DK_get_30 rfl 1 rfl ?_
          refine g_aload_n C d_DK_get_31 rfl 0 rfl ?_
          refine g_get C (v := .int (s.1 4)) 1 3 iw_DK rfl rfl (by decide) (gt 123 (by decide +kernel) rfl) rfl rfl d_DK_get_32 ?_
          refine g_imul C d_DK_get_35 ?_
          refine g_iload_n C d_DK_get_36 rfl 2 rfl ?_
          refine g_iadd C d_DK_get_37 ?_
          obtain ⟨i5, h⟩ := h
          refine g_iald C 2 0 rfl rfl i5 d_DK_get_38 ?_
          exact g_iret r rfl d_DK_get_39 (gBi_mk h)
        · have h := h.2 c4
          refine g_iconst C 0 d_DK_get_24 (by decide) ?_
          exact g_iret r rfl d_DK_get_25 (gBi_mk h)
theorem m_Disk_get (X : gX) (ad : Nat → Nat) (a1 : Int32) (a2 : Int32) (s : gS) (Q : Int32 → gS → Prop) (h : wp_Disk_get a1 a2 s Q) (l : Launch) : gM l X y_DK_get b_DK_get 3 (some .int) rm_Disk_get [.ref (ad 1), .int a1, .int a2] (wC ad X s) (gBi (wC ad X) Q) :=
  gM_of (by decide +kernel) rfl (Nat.le_of_ble_eq_true rfl) rfl (fun E C hRm r => w_Disk_get X ad a1 a2 s Q h E C hRm r)
def rm_Runs_markBlocks_16 : Room := { frames := 1, cells := 0, slots := 0, locals := 22 }
def wl_Runs_markBlocks_16_20 (Q : gS → Prop) (K : Int32 → Int32 → gS → Prop) (x2 : Int32) : Nat → Int32 → Int32 → gS → Prop
  | 0, _, _, _ => False
  | n + 1, x3, x4, s => ((200 ≤ x4 → K x3 x4 s) ∧ (¬ 200 ≤ x4 → ((x3 < 2 → K x3 x4 s) ∧ (¬ x3 < 2 → wp_BlockSet_add_16 x3 s (fun s6 => wp_Disk_get x3 1 s6 (fun r9 s8 => ∀ v10 : Int32, v10 = x4 + 1 → wl_Runs_markBlocks_16_20 Q K x2 n r9 v10 s8))))))
set_option maxHeartbeats 4000000 in
set_option maxRecDepth 100000 in
theorem w_Runs_markBlocks_16_20 (X : gX) (ad : Nat → Nat) (Q : gS → Prop) (K : Int32 → Int32 → gS → Prop) (x2 : Int32) (E : gE) (C : gC X E b_RU_markBlocks 5 R_RU) (hRm : gRm E = rm_Runs_markBlocks_16) (r : gR X E b_RU_markBlocks none (gBv (wC ad X) Q)) (hK : ∀ (x3 : Int32) (x4 : Int32) (s : gS), K x3 x4 s → gW X E 0 0 (wC ad X s) [(0, .ref (ad 6)), (1, .ref (ad 16)), (2, .int x2), (3, .int x3), (4, .int x4)] 54 []) : ∀ (n : Nat) (x3 : Int32) (x4 : Int32) (s : gS), wl_Runs_markBlocks_16_20 Q K x2 n x3 x4 s → gW X E 0 0 (wC ad X s) [(0, .ref (ad 6)), (1, .ref (ad 16)), (2, .int x2), (3, .int x3), (4, .int x4)] 20 [] := by
  intro n
  induction n with
  | zero => intro x3 x4 s h; exact False.elim h
  | succ n ih =>
    intro x3 x4 s h
    have h : ((200 ≤ x4 → K x3 x4 s) ∧ (¬ 200 ≤ x4 → ((x3 < 2 → K x3 x4 s) ∧ (¬ x3 < 2 → wp_BlockSet_add_16 x3 s (fun s6 => wp_Disk_get x3 1 s6 (fun r9 s8 => ∀ v10 : Int32, v10 = x4 + 1 → wl_Runs_markBlocks_16_20 Q K x2 n r9 v10 s8)))))) := h
    refine g_iload C d_RU_markBlocks_20 4 rfl ?_
    refine g_sipush C 200 d_RU_markBlocks_22 (by decide) ?_
    refine g_icmp_ge C 54 d_RU_markBlocks_25 (by decide) (fun c4 => ?_) (fun c4 => ?_)
    · have h := h.1 c4
      exact hK x3 x4 s h
    · have h := h.2 c4
      refine g_iload_n C d_RU_markBlocks_28 rfl 3 rfl ?_
      refine g_iconst C 2 d_RU_markBlocks_29 (by decide) ?_
      refine g_icmp_lt C 54 d_RU_markBlocks_30 (by decide) (fun c5 => ?_) (fun c5 => ?_)
      · have h := h.1 c5
        exact hK x3 x4 s h
      · have h := h.2 c5
        refine g_aload_n C d_RU_markBlocks_33 rfl 1 rfl ?_
        refine g_iload_n C d_RU_markBlocks_34 rfl 3 rfl ?_
        refine g_callVN (host := "SpillQueue") C (rest := []) 16 (fun l => m_BlockSet_add_16 X ad x3 s _ h l) rfl rfl (gn 405 (by decide +kernel) rfl) cb_BS_add ⟨rfl, rfl⟩ (by rw [hRm]; decide) ⟨Nat.zero_le _, Nat.zero_le _⟩ rfl rfl (Nat.le_of_ble_eq_true rfl) d_RU_markBlocks_35 (gkv (fun s6 h => ?_))
        refine g_aload_n C d_RU_markBlocks_38 rfl 0 rfl ?_
        refine g_get C (v := .ref (ad 1)) 6 0 iw_RU rfl rfl (by decide) (gt 168 (by decide +kernel) rfl) rfl rfl d_RU_markBlocks_39 ?_
        refine g_iload_n C d_RU_markBlocks_42 rfl 3 rfl ?_
        refine g_iconst C 1 d_RU_markBlocks_43 (by decide) ?_
        refine g_callVN (host := "SpillQueue") C (rest := []) 1 (fun l => m_Disk_get X ad x3 1 s6 _ h l) rfl rfl (gn 409 (by decide +kernel) rfl) cb_DK_get ⟨rfl, rfl⟩ (by rw [hRm]; decide) ⟨Nat.zero_le _, Nat.zero_le _⟩ rfl rfl (Nat.le_of_ble_eq_true rfl) d_RU_markBlocks_44 (gki (fun r9 s8 h => ?_))
        refine g_istore_n C (lv2 := [(0, .ref (ad 6)), (1, .ref (ad 16)), (2, .int x2), (3, .int r9), (4, .int x4)]) d_RU_markBlocks_47 rfl (by decide) rfl ?_
        obtain ⟨v10, e_v10⟩ : ∃ y : Int32, y = x4 + 1 := ⟨_, rfl⟩
        have h := h v10 e_v10
        refine g_iinc C (v := v10) (lv2 := [(0, .ref (ad 6)), (1, .ref (ad 16)), (2, .int x2), (3, .int r9), (4, .int v10)]) d_RU_markBlocks_48 4 rfl (by rw [e_v10]; rfl) (by decide) rfl ?_
        refine g_goto C 20 d_RU_markBlocks_51 (by decide) ?_
        exact ih r9 v10 s8 h
def wl_Runs_markBlocks_16_2 (Q : gS → Prop) (K : Int32 → gS → Prop) : Nat → Int32 → gS → Prop
  | 0, _, _ => False
  | n + 1, x2, s => (((s.1 9) ≤ x2 → K x2 s) ∧ (¬ (s.1 9) ≤ x2 → vp_in x2 9 ∧ (∀ v3 : Int32, v3 = s.2 3 x2.toNatClampNeg → ∃ n11 : Nat, wl_Runs_markBlocks_16_20 Q (fun v13 v14 s12 => ∀ v15 : Int32, v15 = x2 + 1 → wl_Runs_markBlocks_16_2 Q K n v15 s12) x2 n11 v3 0 s)))
set_option maxHeartbeats 4000000 in
set_option maxRecDepth 100000 in
theorem w_Runs_markBlocks_16_2 (X : gX) (ad : Nat → Nat) (Q : gS → Prop) (K : Int32 → gS → Prop) (E : gE) (C : gC X E b_RU_markBlocks 5 R_RU) (hRm : gRm E = rm_Runs_markBlocks_16) (r : gR X E b_RU_markBlocks none (gBv (wC ad X) Q)) (hK : ∀ (x2 : Int32) (s : gS), K x2 s → gW X E 0 0 (wC ad X s) [(0, .ref (ad 6)), (1, .ref (ad 16)), (2, .int x2)] 60 []) : ∀ (n : Nat) (x2 : Int32) (s : gS), wl_Runs_markBlocks_16_2 Q K n x2 s → gW X E 0 0 (wC ad X s) [(0, .ref (ad 6)), (1, .ref (ad 16)), (2, .int x2)] 2 [] := by
  intro n
  induction n with
  | zero => intro x2 s h; exact False.elim h
  | succ n ih =>
    intro x2 s h
    have h : (((s.1 9) ≤ x2 → K x2 s) ∧ (¬ (s.1 9) ≤ x2 → vp_in x2 9 ∧ (∀ v3 : Int32, v3 = s.2 3 x2.toNatClampNeg → ∃ n11 : Nat, wl_Runs_markBlocks_16_20 Q (fun v13 v14 s12 => ∀ v15 : Int32, v15 = x2 + 1 → wl_Runs_markBlocks_16_2 Q K n v15 s12) x2 n11 v3 0 s))) := h
    refine g_iload_n C d_RU_markBlocks_2 rfl 2 rfl ?_
    refine g_aload_n C d_RU_markBlocks_3 rfl 0 rfl ?_
    refine g_get C (v := .int (s.1 9)) 6 7 iw_RU rfl rfl (by decide) (gt 183 (by decide +kernel) rfl) rfl rfl d_RU_markBlocks_4 ?_
    refine g_icmp_ge C 60 d_RU_markBlocks_7 (by decide) (fun c1 => ?_) (fun c1 => ?_)
    · have h := h.1 c1
      exact hK x2 s h
    · have h := h.2 c1
      refine g_aload_n C d_RU_markBlocks_10 rfl 0 rfl ?_
      refine g_get C (v := .ref (ad 7)) 6 1 iw_RU rfl rfl (by decide) (gt 169 (by decide +kernel) rfl) rfl rfl d_RU_markBlocks_11 ?_
      refine g_iload_n C d_RU_markBlocks_14 rfl 2 rfl ?_
      obtain ⟨i2, h⟩ := h
      refine g_iald C 7 0 rfl rfl i2 d_RU_markBlocks_15 ?_
      refine g_topi (fun v3 e_v3 => ?_)
      have h := h v3 e_v3
      refine g_istore_n C (lv2 := [(0, .ref (ad 6)), (1, .ref (ad 16)), (2, .int x2), (3, .int v3)]) d_RU_markBlocks_16 rfl (by decide) rfl ?_
      refine g_iconst C 0 d_RU_markBlocks_17 (by decide) ?_
      refine g_istore C (lv2 := [(0, .ref (ad 6)), (1, .ref (ad 16)), (2, .int x2), (3, .int v3), (4, .int 0)]) d_RU_markBlocks_18 (by decide) rfl ?_
      obtain ⟨n11, h⟩ := h
      refine w_Runs_markBlocks_16_20 X ad Q (_) x2 E C hRm r ?_ n11 v3 0 s h
      intro v13 v14 s12 h
      obtain ⟨v15, e_v15⟩ : ∃ y : Int32, y = x2 + 1 := ⟨_, rfl⟩
      have h := h v15 e_v15
      refine g_iinc C (v := v15) (lv2 := [(0, .ref (ad 6)), (1, .ref (ad 16)), (2, .int v15), (3, .int v13), (4, .int v14)]) d_RU_markBlocks_54 2 rfl (by rw [e_v15]; rfl) (by decide) rfl ?_
      refine g_goto C 2 d_RU_markBlocks_57 (by decide) ?_
      refine g_lv C [0, 1, 2] rfl ?_
      exact ih v15 s12 h
def wp_Runs_markBlocks_16 (s : gS) (Q : gS → Prop) : Prop := ∃ n16 : Nat, wl_Runs_markBlocks_16_2 Q (fun v18 s17 => Q s17)  n16 0 s
set_option maxHeartbeats 4000000 in
set_option maxRecDepth 100000 in
theorem w_Runs_markBlocks_16 (X : gX) (ad : Nat → Nat) (s : gS) (Q : gS → Prop) (h : wp_Runs_markBlocks_16  s Q) (E : gE) (C : gC X E b_RU_markBlocks 5 R_RU) (hRm : gRm E = rm_Runs_markBlocks_16) (r : gR X E b_RU_markBlocks none (gBv (wC ad X) Q)) : gW X E 0 0 (wC ad X s) [(0, .ref (ad 6)), (1, .ref (ad 16))] 0 [] := by
  have h : ∃ n16 : Nat, wl_Runs_markBlocks_16_2 Q (fun v18 s17 => Q s17)  n16 0 s := h
  refine g_iconst C 0 d_RU_markBlocks_0 (by decide) ?_
  refine g_istore_n C (lv2 := [(0, .ref (ad 6)), (1, .ref (ad 16)), (2, .int 0)]) d_RU_markBlocks_1 rfl (by decide) rfl ?_
  obtain ⟨n16, h⟩ := h
  refine w_Runs_markBlocks_16_2 X ad Q (_)  E C hRm r ?_ n16 0 s h
  intro v18 s17 h
  exact g_vret r d_RU_markBlocks_60 (gBv_mk h)
theorem m_Runs_markBlocks_16 (X : gX) (ad : Nat → Nat) (s : gS) (Q : gS → Prop) (h : wp_Runs_markBlocks_16  s Q) (l : Launch) : gM l X y_RU_markBlocks b_RU_markBlocks 5 none rm_Runs_markBlocks_16 [.ref (ad 6), .ref (ad 16)] (wC ad X s) (gBv (wC ad X) Q) :=
  gM_of (by decide +kernel) rfl (Nat.le_of_ble_eq_true rfl) rfl (fun E C hRm r => w_Runs_markBlocks_16 X ad  s Q h E C hRm r)
def rm_SpillQueue_writeNextEpoch : Room := { frames := 3, cells := 0, slots := 0, locals := 69 }
def wp_SpillQueue_writeNextEpoch (s : gS) (Q : Int32 → gS → Prop) : Prop := ∀ v1 : Int32, v1 = (s.1 1) + 1 → wp_Superblocks_store_6 v1 (up s.1 1 (v1), s.2) (fun r3 s2 => ((¬ r3 = 0 → wp_BlockSet_clear_16 s2 (fun s5 => wp_Runs_markBlocks_16 s5 (fun s7 => Q 0 s7))) ∧ (r3 = 0 → wp_SpillQueue_powerOff s2 (fun s9 => Q (-9) s9))))
set_option maxHeartbeats 4000000 in
set_option maxRecDepth 100000 in
theorem w_SpillQueue_writeNextEpoch (X : gX) (ad : Nat → Nat) (s : gS) (Q : Int32 → gS → Prop) (h : wp_SpillQueue_writeNextEpoch  s Q) (E : gE) (C : gC X E b_SQ_writeNextEpoch 1 R_SQ) (hRm : gRm E = rm_SpillQueue_writeNextEpoch) (r : gR X E b_SQ_writeNextEpoch (some .int) (gBi (wC ad X) Q)) : gW X E 0 0 (wC ad X s) [(0, .ref (ad 0))] 0 [] := by
  have h : ∀ v1 : Int32, v1 = (s.1 1) + 1 → wp_Superblocks_store_6 v1 (up s.1 1 (v1), s.2) (fun r3 s2 => ((¬ r3 = 0 → wp_BlockSet_clear_16 s2 (fun s5 => wp_Runs_markBlocks_16 s5 (fun s7 => Q 0 s7))) ∧ (r3 = 0 → wp_SpillQueue_powerOff s2 (fun s9 => Q (-9) s9)))) := h
  refine g_aload_n C d_SQ_writeNextEpoch_0 rfl 0 rfl ?_
  refine g_dup C rfl d_SQ_writeNextEpoch_1 ?_
  refine g_get C (v := .int (s.1 1)) 0 8 iw_SQ rfl rfl (by decide) (gt 237 (by decide +kernel) rfl) rfl rfl d_SQ_writeNextEpoch_2 ?_
  refine g_iconst C 1 d_SQ_writeNextEpoch_5 (by decide) ?_
  refine g_iadd C d_SQ_writeNextEpoch_6 ?_
  refine g_topi (fun v1 e_v1 => ?_)
  have h := h v1 e_v1
  refine g_put C (ws2 := wC ad X (up s.1 1 (v1), s.2)) 0 8 iw_SQ ty_SQ tyok_SQ nm_SQ rfl rfl (by decide) (gt 237 (by decide +kernel) rfl) rfl rfl rfl rfl (Nat.le_of_ble_eq_true rfl) rfl d_SQ_writeNextEpoch_7 ?_
  refine g_aload_n C d_SQ_writeNextEpoch_10 rfl 0 rfl ?_
  refine g_get C (v := .ref (ad 13)) 0 3 iw_SQ rfl rfl (by decide) (gt 232 (by decide +kernel) rfl) rfl rfl d_SQ_writeNextEpoch_11 ?_
  refine g_aload_n C d_SQ_writeNextEpoch_14 rfl 0 rfl ?_
  refine g_get C (v := .int v1) 0 8 iw_SQ rfl rfl (by decide) (gt 237 (by decide +kernel) rfl) rfl rfl d_SQ_writeNextEpoch_15 ?_
  refine g_aload_n C d_SQ_writeNextEpoch_18 rfl 0 rfl ?_
  refine g_get C (v := .ref (ad 6)) 0 2 iw_SQ rfl rfl (by decide) (gt 231 (by decide +kernel) rfl) rfl rfl d_SQ_writeNextEpoch_19 ?_
  refine g_callVN (host := "SpillQueue") C (rest := []) 13 (fun l => m_Superblocks_store_6 X ad v1 (up s.1 1 (v1), s.2) _ h l) rfl rfl (gn 378 (by decide +kernel) rfl) cb_SB_store ⟨rfl, rfl⟩ (by rw [hRm]; decide) ⟨Nat.zero_le _, Nat.zero_le _⟩ rfl rfl (Nat.le_of_ble_eq_true rfl) d_SQ_writeNextEpoch_22 (gki (fun r3 s2 h => ?_))
  refine g_if_ne C 35 d_SQ_writeNextEpoch_25 (by decide) (fun c4 => ?_) (fun c4 => ?_)
  · have h := h.1 c4
    refine g_aload_n C d_SQ_writeNextEpoch_35 rfl 0 rfl ?_
    refine g_get C (v := .ref (ad 16)) 0 4 iw_SQ rfl rfl (by decide) (gt 233 (by decide +kernel) rfl) rfl rfl d_SQ_writeNextEpoch_36 ?_
    refine g_callVN (host := "SpillQueue") C (rest := []) 16 (fun l => m_BlockSet_clear_16 X ad  s2 _ h l) rfl rfl (gn 363 (by decide +kernel) rfl) cb_BS_clear ⟨rfl, rfl⟩ (by rw [hRm]; decide) ⟨Nat.zero_le _, Nat.zero_le _⟩ rfl rfl (Nat.le_of_ble_eq_true rfl) d_SQ_writeNextEpoch_39 (gkv (fun s5 h => ?_))
    refine g_aload_n C d_SQ_writeNextEpoch_42 rfl 0 rfl ?_
    refine g_get C (v := .ref (ad 6)) 0 2 iw_SQ rfl rfl (by decide) (gt 231 (by decide +kernel) rfl) rfl rfl d_SQ_writeNextEpoch_43 ?_
    refine g_aload_n C d_SQ_writeNextEpoch_46 rfl 0 rfl ?_
    refine g_get C (v := .ref (ad 16)) 0 4 iw_SQ rfl rfl (by decide) (gt 233 (by decide +kernel) rfl) rfl rfl d_SQ_writeNextEpoch_47 ?_
    refine g_callVN (host := "SpillQueue") C (rest := []) 6 (fun l => m_Runs_markBlocks_16 X ad  s5 _ h l) rfl rfl (gn 401 (by decide +kernel) rfl) cb_RU_markBlocks ⟨rfl, rfl⟩ (by rw [hRm]; decide) ⟨Nat.zero_le _, Nat.zero_le _⟩ rfl rfl (Nat.le_of_ble_eq_true rfl) d_SQ_writeNextEpoch_50 (gkv (fun s7 h => ?_))
    refine g_iconst C 0 d_SQ_writeNextEpoch_53 (by decide) ?_
    exact g_iret r rfl d_SQ_writeNextEpoch_54 (gBi_mk h)
  · have h := h.2 c4
    refine g_aload_n C d_SQ_writeNextEpoch_28 rfl 0 rfl ?_
    refine g_callV C (rest := []) 0 (fun l => m_SpillQueue_powerOff X ad  s2 _ h l) rfl rfl (gt 351 (by decide +kernel) rfl) cb_SQ_powerOff ⟨rfl, rfl⟩ (by rw [hRm]; decide) ⟨Nat.zero_le _, Nat.zero_le _⟩ rfl rfl (Nat.le_of_ble_eq_true rfl) d_SQ_writeNextEpoch_29 (gkv (fun s9 h => ?_))
    refine g_bipush C (-9) d_SQ_writeNextEpoch_32 (by decide) ?_
    exact g_iret r rfl d_SQ_writeNextEpoch_34 (gBi_mk h)
theorem m_SpillQueue_writeNextEpoch (X : gX) (ad : Nat → Nat) (s : gS) (Q : Int32 → gS → Prop) (h : wp_SpillQueue_writeNextEpoch  s Q) (l : Launch) : gM l X y_SQ_writeNextEpoch b_SQ_writeNextEpoch 1 (some .int) rm_SpillQueue_writeNextEpoch [.ref (ad 0)] (wC ad X s) (gBi (wC ad X) Q) :=
  gM_of (by decide +kernel) rfl (Nat.le_of_ble_eq_true rfl) rfl (fun E C hRm r => w_SpillQueue_writeNextEpoch X ad  s Q h E C hRm r)
def rm_Memory_isFull : Room := { frames := 0, cells := 0, slots := 0, locals := 0 }
def wp_Memory_isFull (s : gS) (Q : Int32 → gS → Prop) : Prop := (((s.1 7) < (s.1 8) → Q 0 s) ∧ (¬ (s.1 7) < (s.1 8) → Q 1 s))
set_option maxHeartbeats 4000000 in
set_option maxRecDepth 100000 in
theorem w_Memory_isFull (X : gX) (ad : Nat → Nat) (s : gS) (Q : Int32 → gS → Prop) (h : wp_Memory_isFull  s Q) (E : gE) (C : gC X E b_ME_isFull 1 R_ME) (hRm : gRm E = rm_Memory_isFull) (r : gR X E b_ME_isFull (some .boolean) (gBi (wC ad X) Q)) : gW X E 0 0 (wC ad X s) [(0, .ref (ad 4))] 0 [] := by
  have h : (((s.1 7) < (s.1 8) → Q 0 s) ∧ (¬ (s.1 7) < (s.1 8) → Q 1 s)) := h
  refine g_aload_n C d_ME_isFull_0 rfl 0 rfl ?_
  refine g_get C (v := .int (s.1 7)) 4 1 iw_ME rfl rfl (by decide) (gt 152 (by decide +kernel) rfl) rfl rfl d_ME_isFull_1 ?_
  refine g_aload_n C d_ME_isFull_4 rfl 0 rfl ?_
  refine g_get C (v := .int (s.1 8)) 4 2 iw_ME rfl rfl (by decide) (gt 154 (by decide +kernel) rfl) rfl rfl d_ME_isFull_5 ?_
  refine g_icmp_lt C 15 d_ME_isFull_8 (by decide) (fun c1 => ?_) (fun c1 => ?_)
  · have h := h.1 c1
    refine g_iconst C 0 d_ME_isFull_15 (by decide) ?_
    exact g_iret r rfl d_ME_isFull_16 (gBi_mk h)
  · have h := h.2 c1
    refine g_iconst C 1 d_ME_isFull_11 (by decide) ?_
    refine g_goto C 16 d_ME_isFull_12 (by decide) ?_
    exact g_iret r rfl d_ME_isFull_16 (gBi_mk h)
theorem m_Memory_isFull (X : gX) (ad : Nat → Nat) (s : gS) (Q : Int32 → gS → Prop) (h : wp_Memory_isFull  s Q) (l : Launch) : gM l X y_ME_isFull b_ME_isFull 1 (some .boolean) rm_Memory_isFull [.ref (ad 4)] (wC ad X s) (gBi (wC ad X) Q) :=
  gM_of (by decide +kernel) rfl (Nat.le_of_ble_eq_true rfl) rfl (fun E C hRm r => w_Memory_isFull X ad  s Q h E C hRm r)
def rm_Memory_add : Room := { frames := 0, cells := 0, slots := 0, locals := 0 }
def wl_Memory_add_18 (Q : gS → Prop) (K : Int32 → gS → Prop) (x1 : Int32) : Nat → Int32 → gS → Prop
  | 0, _, _ => False
  | n + 1, x2, s => ((x2 ≤ 0 → K x2 s) ∧ (¬ x2 ≤ 0 → vp_in (x2 - 1) 100 ∧ (((x1 ≤ (s.2 2 (x2 - 1).toNatClampNeg) → K x2 s) ∧ (¬ x1 ≤ (s.2 2 (x2 - 1).toNatClampNeg) → vp_in (x2 - 1) 100 ∧ (∀ v7 : Int32, v7 = s.2 2 (x2 - 1).toNatClampNeg → vp_in x2 100 ∧ (∀ v9 : Int32, v9 = x2 + Int32.ofInt (-1) → wl_Memory_add_18 Q K x1 n v9 (s.1, ua s.2 2 (upd (s.2 2) x2.toNatClampNeg v7)))))))))
set_option maxHeartbeats 4000000 in
set_option maxRecDepth 100000 in
theorem w_Memory_add_18 (X : gX) (ad : Nat → Nat) (Q : gS → Prop) (K : Int32 → gS → Prop) (x1 : Int32) (E : gE) (C : gC X E b_ME_add 3 R_ME) (hRm : gRm E = rm_Memory_add) (r : gR X E b_ME_add none (gBv (wC ad X) Q)) (hK : ∀ (x2 : Int32) (s : gS), K x2 s → gW X E 0 0 (wC ad X s) [(0, .ref (ad 4)), (1, .int x1), (2, .int x2)] 54 []) : ∀ (n : Nat) (x2 : Int32) (s : gS), wl_Memory_add_18 Q K x1 n x2 s → gW X E 0 0 (wC ad X s) [(0, .ref (ad 4)), (1, .int x1), (2, .int x2)] 18 [] := by
  intro n
  induction n with
  | zero => intro x2 s h; exact False.elim h
  | succ n ih =>
    intro x2 s h
    have h : ((x2 ≤ 0 → K x2 s) ∧ (¬ x2 ≤ 0 → vp_in (x2 - 1) 100 ∧ (((x1 ≤ (s.2 2 (x2 - 1).toNatClampNeg) → K x2 s) ∧ (¬ x1 ≤ (s.2 2 (x2 - 1).toNatClampNeg) → vp_in (x2 - 1) 100 ∧ (∀ v7 : Int32, v7 = s.2 2 (x2 - 1).toNatClampNeg → vp_in x2 100 ∧ (∀ v9 : Int32, v9 = x2 + Int32.ofInt (-1) → wl_Memory_add_18 Q K x1 n v9 (s.1, ua s.2 2 (upd (s.2 2) x2.toNatClampNeg v7))))))))) := h
    refine g_iload_n C d_ME_add_18 rfl 2 rfl ?_
    refine g_if_le C 54 d_ME_add_19 (by decide) (fun c3 => ?_) (fun c3 => ?_)
    · have h := h.1 c3
      exact hK x2 s h
    · have h := h.2 c3
      refine g_aload_n C d_ME_add_22 rfl 0 rfl ?_
      refine g_get C (v := .ref (ad 5)) 4 0 iw_ME rfl rfl (by decide) (gt 151 (by decide +kernel) rfl) rfl rfl d_ME_add_23 ?_
      refine g_iload_n C d_ME_add_26 rfl 2 rfl ?_
      refine g_iconst C 1 d_ME_add_27 (by decide) ?_
      refine g_isub C d_ME_add_28 ?_
      obtain ⟨i4, h⟩ := h
      refine g_iald C 5 0 rfl rfl i4 d_ME_add_29 ?_
      refine g_iload_n C d_ME_add_30 rfl 1 rfl ?_
      refine g_icmp_ge C 54 d_ME_add_31 (by decide) (fun c5 => ?_) (fun c5 => ?_)
      · have h := h.1 c5
        exact hK x2 s h
      · have h := h.2 c5
        refine g_aload_n C d_ME_add_34 rfl 0 rfl ?_
        refine g_get C (v := .ref (ad 5)) 4 0 iw_ME rfl rfl (by decide) (gt 151 (by decide +kernel) rfl) rfl rfl d_ME_add_35 ?_
        refine g_iload_n C d_ME_add_38 rfl 2 rfl ?_
        refine g_aload_n C d_ME_add_39 rfl 0 rfl ?_
        refine g_get C (v := .ref (ad 5)) 4 0 iw_ME rfl rfl (by decide) (gt 151 (by decide +kernel) rfl) rfl rfl d_ME_add_40 ?_
        refine g_iload_n C d_ME_add_43 rfl 2 rfl ?_
        refine g_iconst C 1 d_ME_add_44 (by decide) ?_
        refine g_isub C d_ME_add_45 ?_
        obtain ⟨i6, h⟩ := h
        refine g_iald C 5 0 rfl rfl i6 d_ME_add_46 ?_
        refine g_topi (fun v7 e_v7 => ?_)
        have h := h v7 e_v7
        obtain ⟨i8, h⟩ := h
        refine g_iast C 5 0 (ws2 := wC ad X (s.1, ua s.2 2 (upd (s.2 2) x2.toNatClampNeg v7))) rfl rfl i8 rfl d_ME_add_47 ?_
        obtain ⟨v9, e_v9⟩ : ∃ y : Int32, y = x2 + Int32.ofInt (-1) := ⟨_, rfl⟩
        have h := h v9 e_v9
        refine g_iinc C (v := v9) (lv2 := [(0, .ref (ad 4)), (1, .int x1), (2, .int v9)]) d_ME_add_48 2 rfl e_v9.symm (by decide) rfl ?_
        refine g_goto C 18 d_ME_add_51 (by decide) ?_
        exact ih v9 (s.1, ua s.2 2 (upd (s.2 2) x2.toNatClampNeg v7)) h
def wp_Memory_add (a1 : Int32) (s : gS) (Q : gS → Prop) : Prop := (((s.1 7) < 100 → ∀ v2 : Int32, v2 = s.1 7 → ∃ n10 : Nat, wl_Memory_add_18 Q (fun v12 s11 => vp_in v12 100 ∧ (∀ v14 : Int32, v14 = (s11.1 7) + 1 → Q (up s11.1 7 (v14), ua s11.2 2 (upd (s11.2 2) v12.toNatClampNeg a1)))) a1 n10 v2 s) ∧ (¬ (s.1 7) < 100 → Q s))
set_option maxHeartbeats 4000000 in
set_option maxRecDepth 100000 in
theorem w_Memory_add (X : gX) (ad : Nat → Nat) (a1 : Int32) (s : gS) (Q : gS → Prop) (h : wp_Memory_add a1 s Q) (E : gE) (C : gC X E b_ME_add 3 R_ME) (hRm : gRm E = rm_Memory_add) (r : gR X E b_ME_add none (gBv (wC ad X) Q)) : gW X E 0 0 (wC ad X s) [(0, .ref (ad 4)), (1, .int a1)] 0 [] := by
  have h : (((s.1 7) < 100 → ∀ v2 : Int32, v2 = s.1 7 → ∃ n10 : Nat, wl_Memory_add_18 Q (fun v12 s11 => vp_in v12 100 ∧ (∀ v14 : Int32, v14 = (s11.1 7) + 1 → Q (up s11.1 7 (v14), ua s11.2 2 (upd (s11.2 2) v12.toNatClampNeg a1)))) a1 n10 v2 s) ∧ (¬ (s.1 7) < 100 → Q s)) := h
  refine g_aload_n C d_ME_add_0 rfl 0 rfl ?_
  refine g_get C (v := .int (s.1 7)) 4 1 iw_ME rfl rfl (by decide) (gt 152 (by decide +kernel) rfl) rfl rfl d_ME_add_1 ?_
  refine g_aload_n C d_ME_add_4 rfl 0 rfl ?_
  refine g_get C (v := .ref (ad 5)) 4 0 iw_ME rfl rfl (by decide) (gt 151 (by decide +kernel) rfl) rfl rfl d_ME_add_5 ?_
  refine g_alen C 5 0 100 rfl rfl rfl d_ME_add_8 ?_
  refine g_icmp_lt C 13 d_ME_add_9 (by decide) (fun c1 => ?_) (fun c1 => ?_)
  · have h := h.1 c1
    refine g_aload_n C d_ME_add_13 rfl 0 rfl ?_
    refine g_get C (v := .int (s.1 7)) 4 1 iw_ME rfl rfl (by decide) (gt 152 (by decide +kernel) rfl) rfl rfl d_ME_add_14 ?_
    refine g_topi (fun v2 e_v2 => ?_)
    have h := h v2 e_v2
    refine g_istore_n C (lv2 := [(0, .ref (ad 4)), (1, .int a1), (2, .int v2)]) d_ME_add_17 rfl (by decide) rfl ?_
    obtain ⟨n10, h⟩ := h
    refine w_Memory_add_18 X ad Q (_) a1 E C hRm r ?_ n10 v2 s h
    intro v12 s11 h
    refine g_aload_n C d_ME_add_54 rfl 0 rfl ?_
    refine g_get C (v := .ref (ad 5)) 4 0 iw_ME rfl rfl (by decide) (gt 151 (by decide +kernel) rfl) rfl rfl d_ME_add_55 ?_
    refine g_iload_n C d_ME_add_58 rfl 2 rfl ?_
    refine g_iload_n C d_ME_add_59 rfl 1 rfl ?_
    obtain ⟨i13, h⟩ := h
    refine g_iast C 5 0 (ws2 := wC ad X (s11.1, ua s11.2 2 (upd (s11.2 2) v12.toNatClampNeg a1))) rfl rfl i13 rfl d_ME_add_60 ?_
    refine g_aload_n C d_ME_add_61 rfl 0 rfl ?_
    refine g_dup C rfl d_ME_add_62 ?_
    refine g_get C (v := .int (s11.1 7)) 4 1 iw_ME rfl rfl (by decide) (gt 152 (by decide +kernel) rfl) rfl rfl d_ME_add_63 ?_
    refine g_iconst C 1 d_ME_add_66 (by decide) ?_
    refine g_iadd C d_ME_add_67 ?_
    refine g_topi (fun v14 e_v14 => ?_)
    have h := h v14 e_v14
    refine g_put C (ws2 := wC ad X (up s11.1 7 (v14), ua s11.2 2 (upd (s11.2 2) v12.toNatClampNeg a1))) 4 1 iw_ME ty_ME tyok_ME nm_ME rfl rfl (by decide) (gt 152 (by decide +kernel) rfl) rfl rfl rfl rfl (Nat.le_of_ble_eq_true rfl) rfl d_ME_add_68 ?_
    exact g_vret r d_ME_add_71 (gBv_mk h)
  · have h := h.2 c1
    exact g_vret r d_ME_add_12 (gBv_mk h)
theorem m_Memory_add (X : gX) (ad : Nat → Nat) (a1 : Int32) (s : gS) (Q : gS → Prop) (h : wp_Memory_add a1 s Q) (l : Launch) : gM l X y_ME_add b_ME_add 3 none rm_Memory_add [.ref (ad 4), .int a1] (wC ad X s) (gBv (wC ad X) Q) :=
  gM_of (by decide +kernel) rfl (Nat.le_of_ble_eq_true rfl) rfl (fun E C hRm r => w_Memory_add X ad a1 s Q h E C hRm r)
def rm_Disk_mostRuns : Room := { frames := 0, cells := 0, slots := 0, locals := 0 }
def wp_Disk_mostRuns (s : gS) (Q : Int32 → gS → Prop) : Prop := Q (((s.1 4) - 3) / 4) s
set_option maxHeartbeats 4000000 in
set_option maxRecDepth 100000 in
theorem w_Disk_mostRuns (X : gX) (ad : Nat → Nat) (s : gS) (Q : Int32 → gS → Prop) (h : wp_Disk_mostRuns  s Q) (E : gE) (C : gC X E b_DK_mostRuns 1 R_DK) (hRm : gRm E = rm_Disk_mostRuns) (r : gR X E b_DK_mostRuns (some .int) (gBi (wC ad X) Q)) : gW X E 0 0 (wC ad X s) [(0, .ref (ad 1))] 0 [] := by
  have h : Q (((s.1 4) - 3) / 4) s := h
  refine g_aload_n C d_DK_mostRuns_0 rfl 0 rfl ?_
  refine g_get C (v := .int (s.1 4)) 1 3 iw_DK rfl rfl (by decide) (gt 123 (by decide +kernel) rfl) rfl rfl d_DK_mostRuns_1 ?_
  refine g_iconst C 3 d_DK_mostRuns_4 (by decide) ?_
  refine g_isub C d_DK_mostRuns_5 ?_
  refine g_iconst C 4 d_DK_mostRuns_6 (by decide) ?_
  refine g_idiv C (by decide) d_DK_mostRuns_7 ?_
  exact g_iret r rfl d_DK_mostRuns_8 (gBi_mk h)
theorem m_Disk_mostRuns (X : gX) (ad : Nat → Nat) (s : gS) (Q : Int32 → gS → Prop) (h : wp_Disk_mostRuns  s Q) (l : Launch) : gM l X y_DK_mostRuns b_DK_mostRuns 1 (some .int) rm_Disk_mostRuns [.ref (ad 1)] (wC ad X s) (gBi (wC ad X) Q) :=
  gM_of (by decide +kernel) rfl (Nat.le_of_ble_eq_true rfl) rfl (fun E C hRm r => w_Disk_mostRuns X ad  s Q h E C hRm r)
def rm_Memory_howMany : Room := { frames := 0, cells := 0, slots := 0, locals := 0 }
def wp_Memory_howMany (s : gS) (Q : Int32 → gS → Prop) : Prop := Q (s.1 7) s
set_option maxHeartbeats 4000000 in
set_option maxRecDepth 100000 in
theorem w_Memory_howMany (X : gX) (ad : Nat → Nat) (s : gS) (Q : Int32 → gS → Prop) (h : wp_Memory_howMany  s Q) (E : gE) (C : gC X E b_ME_howMany 1 R_ME) (hRm : gRm E = rm_Memory_howMany) (r : gR X E b_ME_howMany (some .int) (gBi (wC ad X) Q)) : gW X E 0 0 (wC ad X s) [(0, .ref (ad 4))] 0 [] := by
  have h : Q (s.1 7) s := h
  refine g_aload_n C d_ME_howMany_0 rfl 0 rfl ?_
  refine g_get C (v := .int (s.1 7)) 4 1 iw_ME rfl rfl (by decide) (gt 152 (by decide +kernel) rfl) rfl rfl d_ME_howMany_1 ?_
  exact g_iret r rfl d_ME_howMany_4 (gBi_mk h)
theorem m_Memory_howMany (X : gX) (ad : Nat → Nat) (s : gS) (Q : Int32 → gS → Prop) (h : wp_Memory_howMany  s Q) (l : Launch) : gM l X y_ME_howMany b_ME_howMany 1 (some .int) rm_Memory_howMany [.ref (ad 4)] (wC ad X s) (gBi (wC ad X) Q) :=
  gM_of (by decide +kernel) rfl (Nat.le_of_ble_eq_true rfl) rfl (fun E C hRm r => w_Memory_howMany X ad  s Q h E C hRm r)
def rm_Disk_keysPerBlock : Room := { frames := 0, cells := 0, slots := 0, locals := 0 }
def wp_Disk_keysPerBlock (s : gS) (Q : Int32 → gS → Prop) : Prop := Q ((s.1 4) - 2) s
set_option maxHeartbeats 4000000 in
set_option maxRecDepth 100000 in
theorem w_Disk_keysPerBlock (X : gX) (ad : Nat → Nat) (s : gS) (Q : Int32 → gS → Prop) (h : wp_Disk_keysPerBlock  s Q) (E : gE) (C : gC X E b_DK_keysPerBlock 1 R_DK) (hRm : gRm E = rm_Disk_keysPerBlock) (r : gR X E b_DK_keysPerBlock (some .int) (gBi (wC ad X) Q)) : gW X E 0 0 (wC ad X s) [(0, .ref (ad 1))] 0 [] := by
  have h : Q ((s.1 4) - 2) s := h
  refine g_aload_n C d_DK_keysPerBlock_0 rfl 0 rfl ?_
  refine g_get C (v := .int (s.1 4)) 1 3 iw_DK rfl rfl (by decide) (gt 123 (by decide +kernel) rfl) rfl rfl d_DK_keysPerBlock_1 ?_
  refine g_iconst C 2 d_DK_keysPerBlock_4 (by decide) ?_
  refine g_isub C d_DK_keysPerBlock_5 ?_
  exact g_iret r rfl d_DK_keysPerBlock_6 (gBi_mk h)
theorem m_Disk_keysPerBlock (X : gX) (ad : Nat → Nat) (s : gS) (Q : Int32 → gS → Prop) (h : wp_Disk_keysPerBlock  s Q) (l : Launch) : gM l X y_DK_keysPerBlock b_DK_keysPerBlock 1 (some .int) rm_Disk_keysPerBlock [.ref (ad 1)] (wC ad X s) (gBi (wC ad X) Q) :=
  gM_of (by decide +kernel) rfl (Nat.le_of_ble_eq_true rfl) rfl (fun E C hRm r => w_Disk_keysPerBlock X ad  s Q h E C hRm r)
def rm_Disk_blocksFor : Room := { frames := 1, cells := 0, slots := 0, locals := 20 }
def wp_Disk_blocksFor (a1 : Int32) (s : gS) (Q : Int32 → gS → Prop) : Prop := wp_Disk_keysPerBlock s (fun r2 s1 => ((r2 ≤ 0 → Q 0 s1) ∧ (¬ r2 ≤ 0 → ¬ r2 = 0 ∧ (Q (((a1 + r2) - 1) / r2) s1))))
set_option maxHeartbeats 4000000 in
set_option maxRecDepth 100000 in
theorem w_Disk_blocksFor (X : gX) (ad : Nat → Nat) (a1 : Int32) (s : gS) (Q : Int32 → gS → Prop) (h : wp_Disk_blocksFor a1 s Q) (E : gE) (C : gC X E b_DK_blocksFor 3 R_DK) (hRm : gRm E = rm_Disk_blocksFor) (r : gR X E b_DK_blocksFor (some .int) (gBi (wC ad X) Q)) : gW X E 0 0 (wC ad X s) [(0, .ref (ad 1)), (1, .int a1)] 0 [] := by
  have h : wp_Disk_keysPerBlock s (fun r2 s1 => ((r2 ≤ 0 → Q 0 s1) ∧ (¬ r2 ≤ 0 → ¬ r2 = 0 ∧ (Q (((a1 + r2) - 1) / r2) s1)))) := h
  refine g_aload_n C d_DK_blocksFor_0 rfl 0 rfl ?_
  refine g_callV C (rest := []) 1 (fun l => m_Disk_keysPerBlock X ad  s _ h l) rfl rfl (gt 480 (by decide +kernel) rfl) cb_DK_keysPerBlock ⟨rfl, rfl⟩ (by rw [hRm]; decide) ⟨Nat.zero_le _, Nat.zero_le _⟩ rfl rfl (Nat.le_of_ble_eq_true rfl) d_DK_blocksFor_1 (gki (fun r2 s1 h => ?_))
  refine g_istore_n C (lv2 := [(0, .ref (ad 1)), (1, .int a1), (2, .int r2)]) d_DK_blocksFor_4 rfl (by decide) rfl ?_
  refine g_iload_n C d_DK_blocksFor_5 rfl 2 rfl ?_
  refine g_if_le C 19 d_DK_blocksFor_6 (by decide) (fun c3 => ?_) (fun c3 => ?_)
  · have h := h.1 c3
    refine g_iconst C 0 d_DK_blocksFor_19 (by decide) ?_
    exact g_iret r rfl d_DK_blocksFor_20 (gBi_mk h)
  · have h := h.2 c3
    refine g_iload_n C d_DK_blocksFor_9 rfl 1 rfl ?_
    refine g_iload_n C d_DK_blocksFor_10 rfl 2 rfl ?_
    refine g_iadd C d_DK_blocksFor_11 ?_
    refine g_iconst C 1 d_DK_blocksFor_12 (by decide) ?_
    refine g_isub C d_DK_blocksFor_13 ?_
    refine g_iload_n C d_DK_blocksFor_14 rfl 2 rfl ?_
    obtain ⟨z4, h⟩ := h
    refine g_idiv C z4 d_DK_blocksFor_15 ?_
    refine g_goto C 20 d_DK_blocksFor_16 (by decide) ?_
    exact g_iret r rfl d_DK_blocksFor_20 (gBi_mk h)
theorem m_Disk_blocksFor (X : gX) (ad : Nat → Nat) (a1 : Int32) (s : gS) (Q : Int32 → gS → Prop) (h : wp_Disk_blocksFor a1 s Q) (l : Launch) : gM l X y_DK_blocksFor b_DK_blocksFor 3 (some .int) rm_Disk_blocksFor [.ref (ad 1), .int a1] (wC ad X s) (gBi (wC ad X) Q) :=
  gM_of (by decide +kernel) rfl (Nat.le_of_ble_eq_true rfl) rfl (fun E C hRm r => w_Disk_blocksFor X ad a1 s Q h E C hRm r)
def rm_BlockSet_has_16 : Room := { frames := 0, cells := 0, slots := 0, locals := 0 }
def wp_BlockSet_has_16 (a1 : Int32) (s : gS) (Q : Int32 → gS → Prop) : Prop := ((a1 < 0 → Q 0 s) ∧ (¬ a1 < 0 → ((200 ≤ a1 → Q 0 s) ∧ (¬ 200 ≤ a1 → vp_in a1 200 ∧ ((((s.2 10 a1.toNatClampNeg) = 0 → Q 0 s) ∧ (¬ (s.2 10 a1.toNatClampNeg) = 0 → Q 1 s)))))))
set_option maxHeartbeats 4000000 in
set_option maxRecDepth 100000 in
theorem w_BlockSet_has_16 (X : gX) (ad : Nat → Nat) (a1 : Int32) (s : gS) (Q : Int32 → gS → Prop) (h : wp_BlockSet_has_16 a1 s Q) (E : gE) (C : gC X E b_BS_has 2 R_BS) (hRm : gRm E = rm_BlockSet_has_16) (r : gR X E b_BS_has (some .boolean) (gBi (wC ad X) Q)) : gW X E 0 0 (wC ad X s) [(0, .ref (ad 16)), (1, .int a1)] 0 [] := by
  have h : ((a1 < 0 → Q 0 s) ∧ (¬ a1 < 0 → ((200 ≤ a1 → Q 0 s) ∧ (¬ 200 ≤ a1 → vp_in a1 200 ∧ ((((s.2 10 a1.toNatClampNeg) = 0 → Q 0 s) ∧ (¬ (s.2 10 a1.toNatClampNeg) = 0 → Q 1 s))))))) := h
  refine g_iload_n C d_BS_has_0 rfl 1 rfl ?_
  refine g_if_lt C 26 d_BS_has_1 (by decide) (fun c1 => ?_) (fun c1 => ?_)
  · have h := h.1 c1
    refine g_iconst C 0 d_BS_has_26 (by decide) ?_
    exact g_iret r rfl d_BS_has_27 (gBi_mk h)
  · have h := h.2 c1
    refine g_iload_n C d_BS_has_4 rfl 1 rfl ?_
    refine g_aload_n C d_BS_has_5 rfl 0 rfl ?_
    refine g_get C (v := .ref (ad 17)) 16 0 iw_BS rfl rfl (by decide) (gt 216 (by decide +kernel) rfl) rfl rfl d_BS_has_6 ?_
    refine g_alen C 17 1 200 rfl rfl rfl d_BS_has_9 ?_
    refine g_icmp_ge C 26 d_BS_has_10 (by decide) (fun c2 => ?_) (fun c2 => ?_)
    · have h := h.1 c2
      refine g_iconst C 0 d_BS_has_26 (by decide) ?_
      exact g_iret r rfl d_BS_has_27 (gBi_mk h)
    · have h := h.2 c2
      refine g_aload_n C d_BS_has_13 rfl 0 rfl ?_
      refine g_get C (v := .ref (ad 17)) 16 0 iw_BS rfl rfl (by decide) (gt 216 (by decide +kernel) rfl) rfl rfl d_BS_has_14 ?_
      refine g_iload_n C d_BS_has_17 rfl 1 rfl ?_
      obtain ⟨i3, h⟩ := h
      refine g_zald C 17 1 rfl rfl i3 d_BS_has_18 ?_
      refine g_if_eq C 26 d_BS_has_19 (by decide) (fun c4 => ?_) (fun c4 => ?_)
      · have h := h.1 c4
        refine g_iconst C 0 d_BS_has_26 (by decide) ?_
        exact g_iret r rfl d_BS_has_27 (gBi_mk h)
      · have h := h.2 c4
        refine g_iconst C 1 d_BS_has_22 (by decide) ?_
        refine g_goto C 27 d_BS_has_23 (by decide) ?_
        exact g_iret r rfl d_BS_has_27 (gBi_mk h)
theorem m_BlockSet_has_16 (X : gX) (ad : Nat → Nat) (a1 : Int32) (s : gS) (Q : Int32 → gS → Prop) (h : wp_BlockSet_has_16 a1 s Q) (l : Launch) : gM l X y_BS_has b_BS_has 2 (some .boolean) rm_BlockSet_has_16 [.ref (ad 16), .int a1] (wC ad X s) (gBi (wC ad X) Q) :=
  gM_of (by decide +kernel) rfl (Nat.le_of_ble_eq_true rfl) rfl (fun E C hRm r => w_BlockSet_has_16 X ad a1 s Q h E C hRm r)
def rm_BlockSet_copyOf_18_16 : Room := { frames := 1, cells := 0, slots := 0, locals := 21 }
def wl_BlockSet_copyOf_18_16_2 (Q : gS → Prop) (K : Int32 → gS → Prop) : Nat → Int32 → gS → Prop
  | 0, _, _ => False
  | n + 1, x2, s => ((200 ≤ x2 → K x2 s) ∧ (¬ 200 ≤ x2 → wp_BlockSet_has_16 x2 s (fun r3 s2 => vp_in x2 200 ∧ (∀ v5 : Int32, v5 = x2 + 1 → wl_BlockSet_copyOf_18_16_2 Q K n v5 (s2.1, ua s2.2 11 (upd (s2.2 11) x2.toNatClampNeg (vp_nar .boolean r3)))))))
set_option maxHeartbeats 4000000 in
set_option maxRecDepth 100000 in
theorem w_BlockSet_copyOf_18_16_2 (X : gX) (ad : Nat → Nat) (Q : gS → Prop) (K : Int32 → gS → Prop) (E : gE) (C : gC X E b_BS_copyOf 3 R_BS) (hRm : gRm E = rm_BlockSet_copyOf_18_16) (r : gR X E b_BS_copyOf none (gBv (wC ad X) Q)) (hK : ∀ (x2 : Int32) (s : gS), K x2 s → gW X E 0 0 (wC ad X s) [(0, .ref (ad 18)), (1, .ref (ad 16)), (2, .int x2)] 28 []) : ∀ (n : Nat) (x2 : Int32) (s : gS), wl_BlockSet_copyOf_18_16_2 Q K n x2 s → gW X E 0 0 (wC ad X s) [(0, .ref (ad 18)), (1, .ref (ad 16)), (2, .int x2)] 2 [] := by
  intro n
  induction n with
  | zero => intro x2 s h; exact False.elim h
  | succ n ih =>
    intro x2 s h
    have h : ((200 ≤ x2 → K x2 s) ∧ (¬ 200 ≤ x2 → wp_BlockSet_has_16 x2 s (fun r3 s2 => vp_in x2 200 ∧ (∀ v5 : Int32, v5 = x2 + 1 → wl_BlockSet_copyOf_18_16_2 Q K n v5 (s2.1, ua s2.2 11 (upd (s2.2 11) x2.toNatClampNeg (vp_nar .boolean r3))))))) := h
    refine g_iload_n C d_BS_copyOf_2 rfl 2 rfl ?_
    refine g_aload_n C d_BS_copyOf_3 rfl 0 rfl ?_
    refine g_get C (v := .ref (ad 19)) 18 0 iw_BS rfl rfl (by decide) (gt 216 (by decide +kernel) rfl) rfl rfl d_BS_copyOf_4 ?_
    refine g_alen C 19 1 200 rfl rfl rfl d_BS_copyOf_7 ?_
    refine g_icmp_ge C 28 d_BS_copyOf_8 (by decide) (fun c1 => ?_) (fun c1 => ?_)
    · have h := h.1 c1
      exact hK x2 s h
    · have h := h.2 c1
      refine g_aload_n C d_BS_copyOf_11 rfl 0 rfl ?_
      refine g_get C (v := .ref (ad 19)) 18 0 iw_BS rfl rfl (by decide) (gt 216 (by decide +kernel) rfl) rfl rfl d_BS_copyOf_12 ?_
      refine g_iload_n C d_BS_copyOf_15 rfl 2 rfl ?_
      refine g_aload_n C d_BS_copyOf_16 rfl 1 rfl ?_
      refine g_iload_n C d_BS_copyOf_17 rfl 2 rfl ?_
      refine g_callV C (rest := [.int x2, .ref (ad 19)]) 16 (fun l => m_BlockSet_has_16 X ad x2 s _ h l) rfl rfl (gt 492 (by decide +kernel) rfl) cb_BS_has ⟨rfl, rfl⟩ (by rw [hRm]; decide) ⟨Nat.zero_le _, Nat.zero_le _⟩ rfl rfl (Nat.le_of_ble_eq_true rfl) d_BS_copyOf_18 (gki (fun r3 s2 h => ?_))
      obtain ⟨i4, h⟩ := h
      refine g_zast C 19 1 (ws2 := wC ad X (s2.1, ua s2.2 11 (upd (s2.2 11) x2.toNatClampNeg (vp_nar .boolean r3)))) rfl rfl i4 rfl d_BS_copyOf_21 ?_
      obtain ⟨v5, e_v5⟩ : ∃ y : Int32, y = x2 + 1 := ⟨_, rfl⟩
      have h := h v5 e_v5
      refine g_iinc C (v := v5) (lv2 := [(0, .ref (ad 18)), (1, .ref (ad 16)), (2, .int v5)]) d_BS_copyOf_22 2 rfl (by rw [e_v5]; rfl) (by decide) rfl ?_
      refine g_goto C 2 d_BS_copyOf_25 (by decide) ?_
      exact ih v5 (s2.1, ua s2.2 11 (upd (s2.2 11) x2.toNatClampNeg (vp_nar .boolean r3))) h
def wp_BlockSet_copyOf_18_16 (s : gS) (Q : gS → Prop) : Prop := ∃ n6 : Nat, wl_BlockSet_copyOf_18_16_2 Q (fun v8 s7 => Q s7)  n6 0 s
set_option maxHeartbeats 4000000 in
set_option maxRecDepth 100000 in
theorem w_BlockSet_copyOf_18_16 (X : gX) (ad : Nat → Nat) (s : gS) (Q : gS → Prop) (h : wp_BlockSet_copyOf_18_16  s Q) (E : gE) (C : gC X E b_BS_copyOf 3 R_BS) (hRm : gRm E = rm_BlockSet_copyOf_18_16) (r : gR X E b_BS_copyOf none (gBv (wC ad X) Q)) : gW X E 0 0 (wC ad X s) [(0, .ref (ad 18)), (1, .ref (ad 16))] 0 [] := by
  have h : ∃ n6 : Nat, wl_BlockSet_copyOf_18_16_2 Q (fun v8 s7 => Q s7)  n6 0 s := h
  refine g_iconst C 0 d_BS_copyOf_0 (by decide) ?_
  refine g_istore_n C (lv2 := [(0, .ref (ad 18)), (1, .ref (ad 16)), (2, .int 0)]) d_BS_copyOf_1 rfl (by decide) rfl ?_
  obtain ⟨n6, h⟩ := h
  refine w_BlockSet_copyOf_18_16_2 X ad Q (_)  E C hRm r ?_ n6 0 s h
  intro v8 s7 h
  exact g_vret r d_BS_copyOf_28 (gBv_mk h)
theorem m_BlockSet_copyOf_18_16 (X : gX) (ad : Nat → Nat) (s : gS) (Q : gS → Prop) (h : wp_BlockSet_copyOf_18_16  s Q) (l : Launch) : gM l X y_BS_copyOf b_BS_copyOf 3 none rm_BlockSet_copyOf_18_16 [.ref (ad 18), .ref (ad 16)] (wC ad X s) (gBv (wC ad X) Q) :=
  gM_of (by decide +kernel) rfl (Nat.le_of_ble_eq_true rfl) rfl (fun E C hRm r => w_BlockSet_copyOf_18_16 X ad  s Q h E C hRm r)
def rm_BlockSet_add_18 : Room := { frames := 0, cells := 0, slots := 0, locals := 0 }
def wp_BlockSet_add_18 (a1 : Int32) (s : gS) (Q : gS → Prop) : Prop := ((a1 < 0 → Q s) ∧ (¬ a1 < 0 → ((200 ≤ a1 → Q s) ∧ (¬ 200 ≤ a1 → vp_in a1 200 ∧ (Q (s.1, ua s.2 11 (upd (s.2 11) a1.toNatClampNeg (vp_nar .boolean 1))))))))
set_option maxHeartbeats 4000000 in
set_option maxRecDepth 100000 in
theorem w_BlockSet_add_18 (X : gX) (ad : Nat → Nat) (a1 : Int32) (s : gS) (Q : gS → Prop) (h : wp_BlockSet_add_18 a1 s Q) (E : gE) (C : gC X E b_BS_add 2 R_BS) (hRm : gRm E = rm_BlockSet_add_18) (r : gR X E b_BS_add none (gBv (wC ad X) Q)) : gW X E 0 0 (wC ad X s) [(0, .ref (ad 18)), (1, .int a1)] 0 [] := by
  have h : ((a1 < 0 → Q s) ∧ (¬ a1 < 0 → ((200 ≤ a1 → Q s) ∧ (¬ 200 ≤ a1 → vp_in a1 200 ∧ (Q (s.1, ua s.2 11 (upd (s.2 11) a1.toNatClampNeg (vp_nar .boolean 1)))))))) := h
  refine g_iload_n C d_BS_add_0 rfl 1 rfl ?_
  refine g_if_lt C 20 d_BS_add_1 (by decide) (fun c1 => ?_) (fun c1 => ?_)
  · have h := h.1 c1
    exact g_vret r d_BS_add_20 (gBv_mk h)
  · have h := h.2 c1
    refine g_iload_n C d_BS_add_4 rfl 1 rfl ?_
    refine g_aload_n C d_BS_add_5 rfl 0 rfl ?_
    refine g_get C (v := .ref (ad 19)) 18 0 iw_BS rfl rfl (by decide) (gt 216 (by decide +kernel) rfl) rfl rfl d_BS_add_6 ?_
    refine g_alen C 19 1 200 rfl rfl rfl d_BS_add_9 ?_
    refine g_icmp_ge C 20 d_BS_add_10 (by decide) (fun c2 => ?_) (fun c2 => ?_)
    · have h := h.1 c2
      exact g_vret r d_BS_add_20 (gBv_mk h)
    · have h := h.2 c2
      refine g_aload_n C d_BS_add_13 rfl 0 rfl ?_
      refine g_get C (v := .ref (ad 19)) 18 0 iw_BS rfl rfl (by decide) (gt 216 (by decide +kernel) rfl) rfl rfl d_BS_add_14 ?_
      refine g_iload_n C d_BS_add_17 rfl 1 rfl ?_
      refine g_iconst C 1 d_BS_add_18 (by decide) ?_
      obtain ⟨i3, h⟩ := h
      refine g_zast C 19 1 (ws2 := wC ad X (s.1, ua s.2 11 (upd (s.2 11) a1.toNatClampNeg (vp_nar .boolean 1)))) rfl rfl i3 rfl d_BS_add_19 ?_
      exact g_vret r d_BS_add_20 (gBv_mk h)
theorem m_BlockSet_add_18 (X : gX) (ad : Nat → Nat) (a1 : Int32) (s : gS) (Q : gS → Prop) (h : wp_BlockSet_add_18 a1 s Q) (l : Launch) : gM l X y_BS_add b_BS_add 2 none rm_BlockSet_add_18 [.ref (ad 18), .int a1] (wC ad X s) (gBv (wC ad X) Q) :=
  gM_of (by decide +kernel) rfl (Nat.le_of_ble_eq_true rfl) rfl (fun E C hRm r => w_BlockSet_add_18 X ad a1 s Q h E C hRm r)
def rm_Runs_markBlocks_18 : Room := { frames := 1, cells := 0, slots := 0, locals := 22 }
def wl_Runs_markBlocks_18_20 (Q : gS → Prop) (K : Int32 → Int32 → gS → Prop) (x2 : Int32) : Nat → Int32 → Int32 → gS → Prop
  | 0, _, _, _ => False
  | n + 1, x3, x4, s => ((200 ≤ x4 → K x3 x4 s) ∧ (¬ 200 ≤ x4 → ((x3 < 2 → K x3 x4 s) ∧ (¬ x3 < 2 → wp_BlockSet_add_18 x3 s (fun s6 => wp_Disk_get x3 1 s6 (fun r9 s8 => ∀ v10 : Int32, v10 = x4 + 1 → wl_Runs_markBlocks_18_20 Q K x2 n r9 v10 s8))))))
set_option maxHeartbeats 4000000 in
set_option maxRecDepth 100000 in
theorem w_Runs_markBlocks_18_20 (X : gX) (ad : Nat → Nat) (Q : gS → Prop) (K : Int32 → Int32 → gS → Prop) (x2 : Int32) (E : gE) (C : gC X E b_RU_markBlocks 5 R_RU) (hRm : gRm E = rm_Runs_markBlocks_18) (r : gR X E b_RU_markBlocks none (gBv (wC ad X) Q)) (hK : ∀ (x3 : Int32) (x4 : Int32) (s : gS), K x3 x4 s → gW X E 0 0 (wC ad X s) [(0, .ref (ad 6)), (1, .ref (ad 18)), (2, .int x2), (3, .int x3), (4, .int x4)] 54 []) : ∀ (n : Nat) (x3 : Int32) (x4 : Int32) (s : gS), wl_Runs_markBlocks_18_20 Q K x2 n x3 x4 s → gW X E 0 0 (wC ad X s) [(0, .ref (ad 6)), (1, .ref (ad 18)), (2, .int x2), (3, .int x3), (4, .int x4)] 20 [] := by
  intro n
  induction n with
  | zero => intro x3 x4 s h; exact False.elim h
  | succ n ih =>
    intro x3 x4 s h
    have h : ((200 ≤ x4 → K x3 x4 s) ∧ (¬ 200 ≤ x4 → ((x3 < 2 → K x3 x4 s) ∧ (¬ x3 < 2 → wp_BlockSet_add_18 x3 s (fun s6 => wp_Disk_get x3 1 s6 (fun r9 s8 => ∀ v10 : Int32, v10 = x4 + 1 → wl_Runs_markBlocks_18_20 Q K x2 n r9 v10 s8)))))) := h
    refine g_iload C d_RU_markBlocks_20 4 rfl ?_
    refine g_sipush C 200 d_RU_markBlocks_22 (by decide) ?_
    refine g_icmp_ge C 54 d_RU_markBlocks_25 (by decide) (fun c4 => ?_) (fun c4 => ?_)
    · have h := h.1 c4
      exact hK x3 x4 s h
    · have h := h.2 c4
      refine g_iload_n C d_RU_markBlocks_28 rfl 3 rfl ?_
      refine g_iconst C 2 d_RU_markBlocks_29 (by decide) ?_
      refine g_icmp_lt C 54 d_RU_markBlocks_30 (by decide) (fun c5 => ?_) (fun c5 => ?_)
      · have h := h.1 c5
        exact hK x3 x4 s h
      · have h := h.2 c5
        refine g_aload_n C d_RU_markBlocks_33 rfl 1 rfl ?_
        refine g_iload_n C d_RU_markBlocks_34 rfl 3 rfl ?_
        refine g_callVN (host := "SpillQueue") C (rest := []) 18 (fun l => m_BlockSet_add_18 X ad x3 s _ h l) rfl rfl (gn 405 (by decide +kernel) rfl) cb_BS_add ⟨rfl, rfl⟩ (by rw [hRm]; decide) ⟨Nat.zero_le _, Nat.zero_le _⟩ rfl rfl (Nat.le_of_ble_eq_true rfl) d_RU_markBlocks_35 (gkv (fun s6 h => ?_))
        refine g_aload_n C d_RU_markBlocks_38 rfl 0 rfl ?_
        refine g_get C (v := .ref (ad 1)) 6 0 iw_RU rfl rfl (by decide) (gt 168 (by decide +kernel) rfl) rfl rfl d_RU_markBlocks_39 ?_
        refine g_iload_n C d_RU_markBlocks_42 rfl 3 rfl ?_
        refine g_iconst C 1 d_RU_markBlocks_43 (by decide) ?_
        refine g_callVN (host := "SpillQueue") C (rest := []) 1 (fun l => m_Disk_get X ad x3 1 s6 _ h l) rfl rfl (gn 409 (by decide +kernel) rfl) cb_DK_get ⟨rfl, rfl⟩ (by rw [hRm]; decide) ⟨Nat.zero_le _, Nat.zero_le _⟩ rfl rfl (Nat.le_of_ble_eq_true rfl) d_RU_markBlocks_44 (gki (fun r9 s8 h => ?_))
        refine g_istore_n C (lv2 := [(0, .ref (ad 6)), (1, .ref (ad 18)), (2, .int x2), (3, .int r9), (4, .int x4)]) d_RU_markBlocks_47 rfl (by decide) rfl ?_
        obtain ⟨v10, e_v10⟩ : ∃ y : Int32, y = x4 + 1 := ⟨_, rfl⟩
        have h := h v10 e_v10
        refine g_iinc C (v := v10) (lv2 := [(0, .ref (ad 6)), (1, .ref (ad 18)), (2, .int x2), (3, .int r9), (4, .int v10)]) d_RU_markBlocks_48 4 rfl (by rw [e_v10]; rfl) (by decide) rfl ?_
        refine g_goto C 20 d_RU_markBlocks_51 (by decide) ?_
        exact ih r9 v10 s8 h
def wl_Runs_markBlocks_18_2 (Q : gS → Prop) (K : Int32 → gS → Prop) : Nat → Int32 → gS → Prop
  | 0, _, _ => False
  | n + 1, x2, s => (((s.1 9) ≤ x2 → K x2 s) ∧ (¬ (s.1 9) ≤ x2 → vp_in x2 9 ∧ (∀ v3 : Int32, v3 = s.2 3 x2.toNatClampNeg → ∃ n11 : Nat, wl_Runs_markBlocks_18_20 Q (fun v13 v14 s12 => ∀ v15 : Int32, v15 = x2 + 1 → wl_Runs_markBlocks_18_2 Q K n v15 s12) x2 n11 v3 0 s)))
set_option maxHeartbeats 4000000 in
set_option maxRecDepth 100000 in
theorem w_Runs_markBlocks_18_2 (X : gX) (ad : Nat → Nat) (Q : gS → Prop) (K : Int32 → gS → Prop) (E : gE) (C : gC X E b_RU_markBlocks 5 R_RU) (hRm : gRm E = rm_Runs_markBlocks_18) (r : gR X E b_RU_markBlocks none (gBv (wC ad X) Q)) (hK : ∀ (x2 : Int32) (s : gS), K x2 s → gW X E 0 0 (wC ad X s) [(0, .ref (ad 6)), (1, .ref (ad 18)), (2, .int x2)] 60 []) : ∀ (n : Nat) (x2 : Int32) (s : gS), wl_Runs_markBlocks_18_2 Q K n x2 s → gW X E 0 0 (wC ad X s) [(0, .ref (ad 6)), (1, .ref (ad 18)), (2, .int x2)] 2 [] := by
  intro n
  induction n with
  | zero => intro x2 s h; exact False.elim h
  | succ n ih =>
    intro x2 s h
    have h : (((s.1 9) ≤ x2 → K x2 s) ∧ (¬ (s.1 9) ≤ x2 → vp_in x2 9 ∧ (∀ v3 : Int32, v3 = s.2 3 x2.toNatClampNeg → ∃ n11 : Nat, wl_Runs_markBlocks_18_20 Q (fun v13 v14 s12 => ∀ v15 : Int32, v15 = x2 + 1 → wl_Runs_markBlocks_18_2 Q K n v15 s12) x2 n11 v3 0 s))) := h
    refine g_iload_n C d_RU_markBlocks_2 rfl 2 rfl ?_
    refine g_aload_n C d_RU_markBlocks_3 rfl 0 rfl ?_
    refine g_get C (v := .int (s.1 9)) 6 7 iw_RU rfl rfl (by decide) (gt 183 (by decide +kernel) rfl) rfl rfl d_RU_markBlocks_4 ?_
    refine g_icmp_ge C 60 d_RU_markBlocks_7 (by decide) (fun c1 => ?_) (fun c1 => ?_)
    · have h := h.1 c1
      exact hK x2 s h
    · have h := h.2 c1
      refine g_aload_n C d_RU_markBlocks_10 rfl 0 rfl ?_
      refine g_get C (v := .ref (ad 7)) 6 1 iw_RU rfl rfl (by decide) (gt 169 (by decide +kernel) rfl) rfl rfl d_RU_markBlocks_11 ?_
      refine g_iload_n C d_RU_markBlocks_14 rfl 2 rfl ?_
      obtain ⟨i2, h⟩ := h
      refine g_iald C 7 0 rfl rfl i2 d_RU_markBlocks_15 ?_
      refine g_topi (fun v3 e_v3 => ?_)
      have h := h v3 e_v3
      refine g_istore_n C (lv2 := [(0, .ref (ad 6)), (1, .ref (ad 18)), (2, .int x2), (3, .int v3)]) d_RU_markBlocks_16 rfl (by decide) rfl ?_
      refine g_iconst C 0 d_RU_markBlocks_17 (by decide) ?_
      refine g_istore C (lv2 := [(0, .ref (ad 6)), (1, .ref (ad 18)), (2, .int x2), (3, .int v3), (4, .int 0)]) d_RU_markBlocks_18 (by decide) rfl ?_
      obtain ⟨n11, h⟩ := h
      refine w_Runs_markBlocks_18_20 X ad Q (_) x2 E C hRm r ?_ n11 v3 0 s h
      intro v13 v14 s12 h
      obtain ⟨v15, e_v15⟩ : ∃ y : Int32, y = x2 + 1 := ⟨_, rfl⟩
      have h := h v15 e_v15
      refine g_iinc C (v := v15) (lv2 := [(0, .ref (ad 6)), (1, .ref (ad 18)), (2, .int v15), (3, .int v13), (4, .int v14)]) d_RU_markBlocks_54 2 rfl (by rw [e_v15]; rfl) (by decide) rfl ?_
      refine g_goto C 2 d_RU_markBlocks_57 (by decide) ?_
      refine g_lv C [0, 1, 2] rfl ?_
      exact ih v15 s12 h
def wp_Runs_markBlocks_18 (s : gS) (Q : gS → Prop) : Prop := ∃ n16 : Nat, wl_Runs_markBlocks_18_2 Q (fun v18 s17 => Q s17)  n16 0 s
set_option maxHeartbeats 4000000 in
set_option maxRecDepth 100000 in
theorem w_Runs_markBlocks_18 (X : gX) (ad : Nat → Nat) (s : gS) (Q : gS → Prop) (h : wp_Runs_markBlocks_18  s Q) (E : gE) (C : gC X E b_RU_markBlocks 5 R_RU) (hRm : gRm E = rm_Runs_markBlocks_18) (r : gR X E b_RU_markBlocks none (gBv (wC ad X) Q)) : gW X E 0 0 (wC ad X s) [(0, .ref (ad 6)), (1, .ref (ad 18))] 0 [] := by
  have h : ∃ n16 : Nat, wl_Runs_markBlocks_18_2 Q (fun v18 s17 => Q s17)  n16 0 s := h
  refine g_iconst C 0 d_RU_markBlocks_0 (by decide) ?_
  refine g_istore_n C (lv2 := [(0, .ref (ad 6)), (1, .ref (ad 18)), (2, .int 0)]) d_RU_markBlocks_1 rfl (by decide) rfl ?_
  obtain ⟨n16, h⟩ := h
  refine w_Runs_markBlocks_18_2 X ad Q (_)  E C hRm r ?_ n16 0 s h
  intro v18 s17 h
  exact g_vret r d_RU_markBlocks_60 (gBv_mk h)
theorem m_Runs_markBlocks_18 (X : gX) (ad : Nat → Nat) (s : gS) (Q : gS → Prop) (h : wp_Runs_markBlocks_18  s Q) (l : Launch) : gM l X y_RU_markBlocks b_RU_markBlocks 5 none rm_Runs_markBlocks_18 [.ref (ad 6), .ref (ad 18)] (wC ad X s) (gBv (wC ad X) Q) :=
  gM_of (by decide +kernel) rfl (Nat.le_of_ble_eq_true rfl) rfl (fun E C hRm r => w_Runs_markBlocks_18 X ad  s Q h E C hRm r)
