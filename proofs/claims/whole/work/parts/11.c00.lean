def rm_Memory_clear : Room := { frames := 0, cells := 0, slots := 0, locals := 0 }
def wp_Memory_clear (s : gS) (Q : gS → Prop) : Prop := Q (up s.1 7 (0), s.2)
set_option maxHeartbeats 4000000 in
set_option maxRecDepth 100000 in
theorem w_Memory_clear (X : gX) (ad : Nat → Nat) (s : gS) (Q : gS → Prop) (h : wp_Memory_clear  s Q) (E : gE) (C : gC X E b_ME_clear 1 R_ME) (hRm : gRm E = rm_Memory_clear) (r : gR X E b_ME_clear none (gBv (wC ad X) Q)) : gW X E 0 0 (wC ad X s) [(0, .ref (ad 4))] 0 [] := by
  have h : Q (up s.1 7 (0), s.2) := h
  refine g_aload_n C d_ME_clear_0 rfl 0 rfl ?_
  refine g_iconst C 0 d_ME_clear_1 (by decide) ?_
  refine g_put C (ws2 := wC ad X (up s.1 7 (0), s.2)) 4 1 iw_ME ty_ME tyok_ME nm_ME rfl rfl (by decide) (gt 152 (by decide +kernel) rfl) rfl rfl rfl rfl (Nat.le_of_ble_eq_true rfl) rfl d_ME_clear_2 ?_
  exact g_vret r d_ME_clear_5 (gBv_mk h)
theorem m_Memory_clear (X : gX) (ad : Nat → Nat) (s : gS) (Q : gS → Prop) (h : wp_Memory_clear  s Q) (l : Launch) : gM l X y_ME_clear b_ME_clear 1 none rm_Memory_clear [.ref (ad 4)] (wC ad X s) (gBv (wC ad X) Q) :=
  gM_of (by decide +kernel) rfl (Nat.le_of_ble_eq_true rfl) rfl (fun E C hRm r => w_Memory_clear X ad  s Q h E C hRm r)
def rm_Runs_clear : Room := { frames := 0, cells := 0, slots := 0, locals := 0 }
def wp_Runs_clear (s : gS) (Q : gS → Prop) : Prop := Q (up s.1 9 (0), s.2)
set_option maxHeartbeats 4000000 in
set_option maxRecDepth 100000 in
theorem w_Runs_clear (X : gX) (ad : Nat → Nat) (s : gS) (Q : gS → Prop) (h : wp_Runs_clear  s Q) (E : gE) (C : gC X E b_RU_clear 1 R_RU) (hRm : gRm E = rm_Runs_clear) (r : gR X E b_RU_clear none (gBv (wC ad X) Q)) : gW X E 0 0 (wC ad X s) [(0, .ref (ad 6))] 0 [] := by
  have h : Q (up s.1 9 (0), s.2) := h
  refine g_aload_n C d_RU_clear_0 rfl 0 rfl ?_
  refine g_iconst C 0 d_RU_clear_1 (by decide) ?_
  refine g_put C (ws2 := wC ad X (up s.1 9 (0), s.2)) 6 7 iw_RU ty_RU tyok_RU nm_RU rfl rfl (by decide) (gt 183 (by decide +kernel) rfl) rfl rfl rfl rfl (Nat.le_of_ble_eq_true rfl) rfl d_RU_clear_2 ?_
  exact g_vret r d_RU_clear_5 (gBv_mk h)
theorem m_Runs_clear (X : gX) (ad : Nat → Nat) (s : gS) (Q : gS → Prop) (h : wp_Runs_clear  s Q) (l : Launch) : gM l X y_RU_clear b_RU_clear 1 none rm_Runs_clear [.ref (ad 6)] (wC ad X s) (gBv (wC ad X) Q) :=
  gM_of (by decide +kernel) rfl (Nat.le_of_ble_eq_true rfl) rfl (fun E C hRm r => w_Runs_clear X ad  s Q h E C hRm r)
def rm_BlockSet_clear_16 : Room := { frames := 0, cells := 0, slots := 0, locals := 0 }
def wl_BlockSet_clear_16_2 (Q : gS → Prop) (K : Int32 → gS → Prop) : Nat → Int32 → gS → Prop
  | 0, _, _ => False
  | n + 1, x1, s => ((200 ≤ x1 → K x1 s) ∧ (¬ 200 ≤ x1 → vp_in x1 200 ∧ (∀ v3 : Int32, v3 = x1 + 1 → wl_BlockSet_clear_16_2 Q K n v3 (s.1, ua s.2 10 (upd (s.2 10) x1.toNatClampNeg (vp_nar .boolean 0))))))
set_option maxHeartbeats 4000000 in
set_option maxRecDepth 100000 in
theorem w_BlockSet_clear_16_2 (X : gX) (ad : Nat → Nat) (Q : gS → Prop) (K : Int32 → gS → Prop) (E : gE) (C : gC X E b_BS_clear 2 R_BS) (hRm : gRm E = rm_BlockSet_clear_16) (r : gR X E b_BS_clear none (gBv (wC ad X) Q)) (hK : ∀ (x1 : Int32) (s : gS), K x1 s → gW X E 0 0 (wC ad X s) [(0, .ref (ad 16)), (1, .int x1)] 24 []) : ∀ (n : Nat) (x1 : Int32) (s : gS), wl_BlockSet_clear_16_2 Q K n x1 s → gW X E 0 0 (wC ad X s) [(0, .ref (ad 16)), (1, .int x1)] 2 [] := by
  intro n
  induction n with
  | zero => intro x1 s h; exact False.elim h
  | succ n ih =>
    intro x1 s h
    have h : ((200 ≤ x1 → K x1 s) ∧ (¬ 200 ≤ x1 → vp_in x1 200 ∧ (∀ v3 : Int32, v3 = x1 + 1 → wl_BlockSet_clear_16_2 Q K n v3 (s.1, ua s.2 10 (upd (s.2 10) x1.toNatClampNeg (vp_nar .boolean 0)))))) := h
    refine g_iload_n C d_BS_clear_2 rfl 1 rfl ?_
    refine g_aload_n C d_BS_clear_3 rfl 0 rfl ?_
    refine g_get C (v := .ref (ad 17)) 16 0 iw_BS rfl rfl (by decide) (gt 216 (by decide +kernel) rfl) rfl rfl d_BS_clear_4 ?_
    refine g_alen C 17 1 200 rfl rfl rfl d_BS_clear_7 ?_
    refine g_icmp_ge C 24 d_BS_clear_8 (by decide) (fun c1 => ?_) (fun c1 => ?_)
    · have h := h.1 c1
      exact hK x1 s h
    · have h := h.2 c1
      refine g_aload_n C d_BS_clear_11 rfl 0 rfl ?_
      refine g_get C (v := .ref (ad 17)) 16 0 iw_BS rfl rfl (by decide) (gt 216 (by decide +kernel) rfl) rfl rfl d_BS_clear_12 ?_
      refine g_iload_n C d_BS_clear_15 rfl 1 rfl ?_
      refine g_iconst C 0 d_BS_clear_16 (by decide) ?_
      obtain ⟨i2, h⟩ := h
      refine g_zast C 17 1 (ws2 := wC ad X (s.1, ua s.2 10 (upd (s.2 10) x1.toNatClampNeg (vp_nar .boolean 0)))) rfl rfl i2 rfl d_BS_clear_17 ?_
      obtain ⟨v3, e_v3⟩ : ∃ y : Int32, y = x1 + 1 := ⟨_, rfl⟩
      have h := h v3 e_v3
      refine g_iinc C (v := v3) (lv2 := [(0, .ref (ad 16)), (1, .int v3)]) d_BS_clear_18 1 rfl (by rw [e_v3]; rfl) (by decide) rfl ?_
      refine g_goto C 2 d_BS_clear_21 (by decide) ?_
      exact ih v3 (s.1, ua s.2 10 (upd (s.2 10) x1.toNatClampNeg (vp_nar .boolean 0))) h
def wp_BlockSet_clear_16 (s : gS) (Q : gS → Prop) : Prop := ∃ n4 : Nat, wl_BlockSet_clear_16_2 Q (fun v6 s5 => Q s5)  n4 0 s
set_option maxHeartbeats 4000000 in
set_option maxRecDepth 100000 in
theorem w_BlockSet_clear_16 (X : gX) (ad : Nat → Nat) (s : gS) (Q : gS → Prop) (h : wp_BlockSet_clear_16  s Q) (E : gE) (C : gC X E b_BS_clear 2 R_BS) (hRm : gRm E = rm_BlockSet_clear_16) (r : gR X E b_BS_clear none (gBv (wC ad X) Q)) : gW X E 0 0 (wC ad X s) [(0, .ref (ad 16))] 0 [] := by
  have h : ∃ n4 : Nat, wl_BlockSet_clear_16_2 Q (fun v6 s5 => Q s5)  n4 0 s := h
  refine g_iconst C 0 d_BS_clear_0 (by decide) ?_
  refine g_istore_n C (lv2 := [(0, .ref (ad 16)), (1, .int 0)]) d_BS_clear_1 rfl (by decide) rfl ?_
  obtain ⟨n4, h⟩ := h
  refine w_BlockSet_clear_16_2 X ad Q (_)  E C hRm r ?_ n4 0 s h
  intro v6 s5 h
  exact g_vret r d_BS_clear_24 (gBv_mk h)
theorem m_BlockSet_clear_16 (X : gX) (ad : Nat → Nat) (s : gS) (Q : gS → Prop) (h : wp_BlockSet_clear_16  s Q) (l : Launch) : gM l X y_BS_clear b_BS_clear 2 none rm_BlockSet_clear_16 [.ref (ad 16)] (wC ad X s) (gBv (wC ad X) Q) :=
  gM_of (by decide +kernel) rfl (Nat.le_of_ble_eq_true rfl) rfl (fun E C hRm r => w_BlockSet_clear_16 X ad  s Q h E C hRm r)
def rm_SpillQueue_powerOff : Room := { frames := 1, cells := 0, slots := 0, locals := 21 }
def wp_SpillQueue_powerOff (s : gS) (Q : gS → Prop) : Prop := wp_Memory_clear (up (up s.1 2 (0)) 1 (0), s.2) (fun s1 => wp_Runs_clear s1 (fun s3 => wp_BlockSet_clear_16 s3 (fun s5 => Q (up s5.1 6 (0), s5.2))))
set_option maxHeartbeats 4000000 in
set_option maxRecDepth 100000 in
theorem w_SpillQueue_powerOff (X : gX) (ad : Nat → Nat) (s : gS) (Q : gS → Prop) (h : wp_SpillQueue_powerOff  s Q) (E : gE) (C : gC X E b_SQ_powerOff 1 R_SQ) (hRm : gRm E = rm_SpillQueue_powerOff) (r : gR X E b_SQ_powerOff none (gBv (wC ad X) Q)) : gW X E 0 0 (wC ad X s) [(0, .ref (ad 0))] 0 [] := by
  have h : wp_Memory_clear (up (up s.1 2 (0)) 1 (0), s.2) (fun s1 => wp_Runs_clear s1 (fun s3 => wp_BlockSet_clear_16 s3 (fun s5 => Q (up s5.1 6 (0), s5.2)))) := h
  refine g_aload_n C d_SQ_powerOff_0 rfl 0 rfl ?_
  refine g_iconst C 0 d_SQ_powerOff_1 (by decide) ?_
  refine g_put C (ws2 := wC ad X (up s.1 2 (0), s.2)) 0 9 iw_SQ ty_SQ tyok_SQ nm_SQ rfl rfl (by decide) (gt 238 (by decide +kernel) rfl) rfl rfl (by decide +kernel) (by decide +kernel) (Nat.le_of_ble_eq_true rfl) rfl d_SQ_powerOff_2 ?_
  refine g_aload_n C d_SQ_powerOff_5 rfl 0 rfl ?_
  refine g_iconst C 0 d_SQ_powerOff_6 (by decide) ?_
  refine g_put C (ws2 := wC ad X (up (up s.1 2 (0)) 1 (0), s.2)) 0 8 iw_SQ ty_SQ tyok_SQ nm_SQ rfl rfl (by decide) (gt 237 (by decide +kernel) rfl) rfl rfl rfl rfl (Nat.le_of_ble_eq_true rfl) rfl d_SQ_powerOff_7 ?_
  refine g_aload_n C d_SQ_powerOff_10 rfl 0 rfl ?_
  refine g_get C (v := .ref (ad 4)) 0 1 iw_SQ rfl rfl (by decide) (gt 230 (by decide +kernel) rfl) rfl rfl d_SQ_powerOff_11 ?_
  refine g_callVN (host := "SpillQueue") C (rest := []) 4 (fun l => m_Memory_clear X ad  (up (up s.1 2 (0)) 1 (0), s.2) _ h l) rfl rfl (gn 355 (by decide +kernel) rfl) cb_ME_clear ⟨rfl, rfl⟩ (by rw [hRm]; decide) ⟨Nat.zero_le _, Nat.zero_le _⟩ rfl rfl (Nat.le_of_ble_eq_true rfl) d_SQ_powerOff_14 (gkv (fun s1 h => ?_))
  refine g_aload_n C d_SQ_powerOff_17 rfl 0 rfl ?_
  refine g_get C (v := .ref (ad 6)) 0 2 iw_SQ rfl rfl (by decide) (gt 231 (by decide +kernel) rfl) rfl rfl d_SQ_powerOff_18 ?_
  refine g_callVN (host := "SpillQueue") C (rest := []) 6 (fun l => m_Runs_clear X ad  s1 _ h l) rfl rfl (gn 359 (by decide +kernel) rfl) cb_RU_clear ⟨rfl, rfl⟩ (by rw [hRm]; decide) ⟨Nat.zero_le _, Nat.zero_le _⟩ rfl rfl (Nat.le_of_ble_eq_true rfl) d_SQ_powerOff_21 (gkv (fun s3 h => ?_))
  refine g_aload_n C d_SQ_powerOff_24 rfl 0 rfl ?_
  refine g_get C (v := .ref (ad 16)) 0 4 iw_SQ rfl rfl (by decide) (gt 233 (by decide +kernel) rfl) rfl rfl d_SQ_powerOff_25 ?_
  refine g_callVN (host := "SpillQueue") C (rest := []) 16 (fun l => m_BlockSet_clear_16 X ad  s3 _ h l) rfl rfl (gn 363 (by decide +kernel) rfl) cb_BS_clear ⟨rfl, rfl⟩ (by rw [hRm]; decide) ⟨Nat.zero_le _, Nat.zero_le _⟩ rfl rfl (Nat.le_of_ble_eq_true rfl) d_SQ_powerOff_28 (gkv (fun s5 h => ?_))
  refine g_aload_n C d_SQ_powerOff_31 rfl 0 rfl ?_
  refine g_get C (v := .ref (ad 1)) 0 0 iw_SQ rfl rfl (by decide) (gt 229 (by decide +kernel) rfl) rfl rfl d_SQ_powerOff_32 ?_
  refine g_iconst C 0 d_SQ_powerOff_35 (by decide) ?_
  refine g_putN (host := "SpillQueue") C (ws2 := wC ad X (up s5.1 6 (0), s5.2)) 1 5 iw_DK ty_DK tyok_DK nm_DK rfl rfl (by decide) (gn 127 (by decide +kernel) rfl) rfl rfl rfl rfl (Nat.le_of_ble_eq_true rfl) rfl d_SQ_powerOff_36 ?_
  exact g_vret r d_SQ_powerOff_39 (gBv_mk h)
theorem m_SpillQueue_powerOff (X : gX) (ad : Nat → Nat) (s : gS) (Q : gS → Prop) (h : wp_SpillQueue_powerOff  s Q) (l : Launch) : gM l X y_SQ_powerOff b_SQ_powerOff 1 none rm_SpillQueue_powerOff [.ref (ad 0)] (wC ad X s) (gBv (wC ad X) Q) :=
  gM_of (by decide +kernel) rfl (Nat.le_of_ble_eq_true rfl) rfl (fun E C hRm r => w_SpillQueue_powerOff X ad  s Q h E C hRm r)
def rm_Arrays_fill_2 : Room := { frames := 0, cells := 0, slots := 0, locals := 0 }
def wl_Arrays_fill_2_5 (Q : gS → Prop) (K : Int32 → gS → Prop) (x1 : Int32) (x3 : Int32) : Nat → Int32 → gS → Prop
  | 0, _, _ => False
  | n + 1, x2, s => ((x3 ≤ x2 → K x2 s) ∧ (¬ x3 ≤ x2 → vp_in x2 8000 ∧ (∀ v3 : Int32, v3 = x2 + 1 → wl_Arrays_fill_2_5 Q K x1 x3 n v3 (s.1, ua s.2 0 (upd (s.2 0) x2.toNatClampNeg x1)))))
set_option maxHeartbeats 4000000 in
set_option maxRecDepth 100000 in
theorem w_Arrays_fill_2_5 (X : gX) (ad : Nat → Nat) (Q : gS → Prop) (K : Int32 → gS → Prop) (x1 : Int32) (x3 : Int32) (E : gE) (C : gC X E b_AR_fill 4 R_AR) (hRm : gRm E = rm_Arrays_fill_2) (r : gR X E b_AR_fill none (gBv (wC ad X) Q)) (hK : ∀ (x2 : Int32) (s : gS), K x2 s → gW X E 0 0 (wC ad X s) [(0, .ref (ad 2)), (1, .int x1), (2, .int x2), (3, .int x3)] 20 []) : ∀ (n : Nat) (x2 : Int32) (s : gS), wl_Arrays_fill_2_5 Q K x1 x3 n x2 s → gW X E 0 0 (wC ad X s) [(0, .ref (ad 2)), (1, .int x1), (2, .int x2), (3, .int x3)] 5 [] := by
  intro n
  induction n with
  | zero => intro x2 s h; exact False.elim h
  | succ n ih =>
    intro x2 s h
    have h : ((x3 ≤ x2 → K x2 s) ∧ (¬ x3 ≤ x2 → vp_in x2 8000 ∧ (∀ v3 : Int32, v3 = x2 + 1 → wl_Arrays_fill_2_5 Q K x1 x3 n v3 (s.1, ua s.2 0 (upd (s.2 0) x2.toNatClampNeg x1))))) := h
    refine g_iload_n C d_AR_fill_5 rfl 2 rfl ?_
    refine g_iload_n C d_AR_fill_6 rfl 3 rfl ?_
    refine g_icmp_ge C 20 d_AR_fill_7 (by decide) (fun c1 => ?_) (fun c1 => ?_)
    · have h := h.1 c1
      exact hK x2 s h
    · have h := h.2 c1
      refine g_aload_n C d_AR_fill_10 rfl 0 rfl ?_
      refine g_iload_n C d_AR_fill_11 rfl 2 rfl ?_
      refine g_iload_n C d_AR_fill_12 rfl 1 rfl ?_
      obtain ⟨i2, h⟩ := h
      refine g_iast C 2 0 (ws2 := wC ad X (s.1, ua s.2 0 (upd (s.2 0) x2.toNatClampNeg x1))) rfl rfl i2 rfl d_AR_fill_13 ?_
      obtain ⟨v3, e_v3⟩ : ∃ y : Int32, y = x2 + 1 := ⟨_, rfl⟩
      have h := h v3 e_v3
      refine g_iinc C (v := v3) (lv2 := [(0, .ref (ad 2)), (1, .int x1), (2, .int v3), (3, .int x3)]) d_AR_fill_14 2 rfl (by rw [e_v3]; rfl) (by decide) rfl ?_
      refine g_goto C 5 d_AR_fill_17 (by decide) ?_
      exact ih v3 (s.1, ua s.2 0 (upd (s.2 0) x2.toNatClampNeg x1)) h
def wp_Arrays_fill_2 (a1 : Int32) (s : gS) (Q : gS → Prop) : Prop := ∃ n4 : Nat, wl_Arrays_fill_2_5 Q (fun v6 s5 => Q s5) a1 8000 n4 0 s
set_option maxHeartbeats 4000000 in
set_option maxRecDepth 100000 in
theorem w_Arrays_fill_2 (X : gX) (ad : Nat → Nat) (a1 : Int32) (s : gS) (Q : gS → Prop) (h : wp_Arrays_fill_2 a1 s Q) (E : gE) (C : gC X E b_AR_fill 4 R_AR) (hRm : gRm E = rm_Arrays_fill_2) (r : gR X E b_AR_fill none (gBv (wC ad X) Q)) : gW X E 0 0 (wC ad X s) [(0, .ref (ad 2)), (1, .int a1)] 0 [] := by
  have h : ∃ n4 : Nat, wl_Arrays_fill_2_5 Q (fun v6 s5 => Q s5) a1 8000 n4 0 s := h
  refine g_iconst C 0 d_AR_fill_0 (by decide) ?_
  refine g_istore_n C (lv2 := [(0, .ref (ad 2)), (1, .int a1), (2, .int 0)]) d_AR_fill_1 rfl (by decide) rfl ?_
  refine g_aload_n C d_AR_fill_2 rfl 0 rfl ?_
  refine g_alen C 2 0 8000 rfl rfl rfl d_AR_fill_3 ?_
  refine g_istore_n C (lv2 := [(0, .ref (ad 2)), (1, .int a1), (2, .int 0), (3, .int 8000)]) d_AR_fill_4 rfl (by decide) rfl ?_
  obtain ⟨n4, h⟩ := h
  refine w_Arrays_fill_2_5 X ad Q (_) a1 8000 E C hRm r ?_ n4 0 s h
  intro v6 s5 h
  exact g_vret r d_AR_fill_20 (gBv_mk h)
theorem m_Arrays_fill_2 (X : gX) (ad : Nat → Nat) (a1 : Int32) (s : gS) (Q : gS → Prop) (h : wp_Arrays_fill_2 a1 s Q) (l : Launch) : gM l X y_AR_fill b_AR_fill 4 none rm_Arrays_fill_2 [.ref (ad 2), .int a1] (wC ad X s) (gBv (wC ad X) Q) :=
  gM_of (by decide +kernel) rfl (Nat.le_of_ble_eq_true rfl) rfl (fun E C hRm r => w_Arrays_fill_2 X ad a1 s Q h E C hRm r)
def rm_Disk_renew : Room := { frames := 1, cells := 0, slots := 0, locals := 23 }
def wp_Disk_renew (a1 : Int32) (a2 : Int32) (s : gS) (Q : gS → Prop) : Prop := wp_Arrays_fill_2 0 (up (up (up (up s.1 3 (a1)) 4 (a2)) 5 (0)) 6 (0), s.2) (fun s1 => Q s1)
set_option maxHeartbeats 4000000 in
set_option maxRecDepth 100000 in
theorem w_Disk_renew (X : gX) (ad : Nat → Nat) (a1 : Int32) (a2 : Int32) (s : gS) (Q : gS → Prop) (h : wp_Disk_renew a1 a2 s Q) (E : gE) (C : gC X E b_DK_renew 3 R_DK) (hRm : gRm E = rm_Disk_renew) (r : gR X E b_DK_renew none (gBv (wC ad X) Q)) : gW X E 0 0 (wC ad X s) [(0, .ref (ad 1)), (1, .int a1), (2, .int a2)] 0 [] := by
  have h : wp_Arrays_fill_2 0 (up (up (up (up s.1 3 (a1)) 4 (a2)) 5 (0)) 6 (0), s.2) (fun s1 => Q s1) := h
  refine g_aload_n C d_DK_renew_0 rfl 0 rfl ?_
  refine g_iload_n C d_DK_renew_1 rfl 1 rfl ?_
  refine g_put C (ws2 := wC ad X (up s.1 3 (a1), s.2)) 1 2 iw_DK ty_DK tyok_DK nm_DK rfl rfl (by decide) (gt 120 (by decide +kernel) rfl) rfl rfl rfl rfl (Nat.le_of_ble_eq_true rfl) rfl d_DK_renew_2 ?_
  refine g_aload_n C d_DK_renew_5 rfl 0 rfl ?_
  refine g_iload_n C d_DK_renew_6 rfl 2 rfl ?_
  refine g_put C (ws2 := wC ad X (up (up s.1 3 (a1)) 4 (a2), s.2)) 1 3 iw_DK ty_DK tyok_DK nm_DK rfl rfl (by decide) (gt 123 (by decide +kernel) rfl) rfl rfl rfl rfl (Nat.le_of_ble_eq_true rfl) rfl d_DK_renew_7 ?_
  refine g_aload_n C d_DK_renew_10 rfl 0 rfl ?_
  refine g_iconst C 0 d_DK_renew_11 (by decide) ?_
  refine g_put C (ws2 := wC ad X (up (up (up s.1 3 (a1)) 4 (a2)) 5 (0), s.2)) 1 4 iw_DK ty_DK tyok_DK nm_DK rfl rfl (by decide) (gt 124 (by decide +kernel) rfl) rfl rfl rfl rfl (Nat.le_of_ble_eq_true rfl) rfl d_DK_renew_12 ?_
  refine g_aload_n C d_DK_renew_15 rfl 0 rfl ?_
  refine g_iconst C 0 d_DK_renew_16 (by decide) ?_
  refine g_put C (ws2 := wC ad X (up (up (up (up s.1 3 (a1)) 4 (a2)) 5 (0)) 6 (0), s.2)) 1 5 iw_DK ty_DK tyok_DK nm_DK rfl rfl (by decide) (gt 126 (by decide +kernel) rfl) rfl rfl rfl rfl (Nat.le_of_ble_eq_true rfl) rfl d_DK_renew_17 ?_
  refine g_aload_n C d_DK_renew_20 rfl 0 rfl ?_
  refine g_get C (v := .ref (ad 2)) 1 0 iw_DK rfl rfl (by decide) (gt 118 (by decide +kernel) rfl) rfl rfl d_DK_renew_21 ?_
  refine g_iconst C 0 d_DK_renew_24 (by decide) ?_
  refine g_callS C (rest := []) (fun l => m_Arrays_fill_2 X ad 0 (up (up (up (up s.1 3 (a1)) 4 (a2)) 5 (0)) 6 (0), s.2) _ h l) (gt 371 (by decide +kernel) rfl) cb_AR_fill ⟨rfl, rfl⟩ (by rw [hRm]; decide) ⟨Nat.zero_le _, Nat.zero_le _⟩ rfl rfl (Nat.le_of_ble_eq_true rfl) d_DK_renew_25 (gkv (fun s1 h => ?_))
  exact g_vret r d_DK_renew_28 (gBv_mk h)
theorem m_Disk_renew (X : gX) (ad : Nat → Nat) (a1 : Int32) (a2 : Int32) (s : gS) (Q : gS → Prop) (h : wp_Disk_renew a1 a2 s Q) (l : Launch) : gM l X y_DK_renew b_DK_renew 3 none rm_Disk_renew [.ref (ad 1), .int a1, .int a2] (wC ad X s) (gBv (wC ad X) Q) :=
  gM_of (by decide +kernel) rfl (Nat.le_of_ble_eq_true rfl) rfl (fun E C hRm r => w_Disk_renew X ad a1 a2 s Q h E C hRm r)
def rm_Arrays_fill_3 : Room := { frames := 0, cells := 0, slots := 0, locals := 0 }
def wl_Arrays_fill_3_5 (Q : gS → Prop) (K : Int32 → gS → Prop) (x1 : Int32) (x3 : Int32) : Nat → Int32 → gS → Prop
  | 0, _, _ => False
  | n + 1, x2, s => ((x3 ≤ x2 → K x2 s) ∧ (¬ x3 ≤ x2 → vp_in x2 40 ∧ (∀ v3 : Int32, v3 = x2 + 1 → wl_Arrays_fill_3_5 Q K x1 x3 n v3 (s.1, ua s.2 1 (upd (s.2 1) x2.toNatClampNeg x1)))))
set_option maxHeartbeats 4000000 in
set_option maxRecDepth 100000 in
theorem w_Arrays_fill_3_5 (X : gX) (ad : Nat → Nat) (Q : gS → Prop) (K : Int32 → gS → Prop) (x1 : Int32) (x3 : Int32) (E : gE) (C : gC X E b_AR_fill 4 R_AR) (hRm : gRm E = rm_Arrays_fill_3) (r : gR X E b_AR_fill none (gBv (wC ad X) Q)) (hK : ∀ (x2 : Int32) (s : gS), K x2 s → gW X E 0 0 (wC ad X s) [(0, .ref (ad 3)), (1, .int x1), (2, .int x2), (3, .int x3)] 20 []) : ∀ (n : Nat) (x2 : Int32) (s : gS), wl_Arrays_fill_3_5 Q K x1 x3 n x2 s → gW X E 0 0 (wC ad X s) [(0, .ref (ad 3)), (1, .int x1), (2, .int x2), (3, .int x3)] 5 [] := by
  intro n
  induction n with
  | zero => intro x2 s h; exact False.elim h
  | succ n ih =>
    intro x2 s h
    have h : ((x3 ≤ x2 → K x2 s) ∧ (¬ x3 ≤ x2 → vp_in x2 40 ∧ (∀ v3 : Int32, v3 = x2 + 1 → wl_Arrays_fill_3_5 Q K x1 x3 n v3 (s.1, ua s.2 1 (upd (s.2 1) x2.toNatClampNeg x1))))) := h
    refine g_iload_n C d_AR_fill_5 rfl 2 rfl ?_
    refine g_iload_n C d_AR_fill_6 rfl 3 rfl ?_
    refine g_icmp_ge C 20 d_AR_fill_7 (by decide) (fun c1 => ?_) (fun c1 => ?_)
    · have h := h.1 c1
      exact hK x2 s h
    · have h := h.2 c1
      refine g_aload_n C d_AR_fill_10 rfl 0 rfl ?_
      refine g_iload_n C d_AR_fill_11 rfl 2 rfl ?_
      refine g_iload_n C d_AR_fill_12 rfl 1 rfl ?_
      obtain ⟨i2, h⟩ := h
      refine g_iast C 3 0 (ws2 := wC ad X (s.1, ua s.2 1 (upd (s.2 1) x2.toNatClampNeg x1))) rfl rfl i2 rfl d_AR_fill_13 ?_
      obtain ⟨v3, e_v3⟩ : ∃ y : Int32, y = x2 + 1 := ⟨_, rfl⟩
      have h := h v3 e_v3
      refine g_iinc C (v := v3) (lv2 := [(0, .ref (ad 3)), (1, .int x1), (2, .int v3), (3, .int x3)]) d_AR_fill_14 2 rfl (by rw [e_v3]; rfl) (by decide) rfl ?_
      refine g_goto C 5 d_AR_fill_17 (by decide) ?_
      exact ih v3 (s.1, ua s.2 1 (upd (s.2 1) x2.toNatClampNeg x1)) h
def wp_Arrays_fill_3 (a1 : Int32) (s : gS) (Q : gS → Prop) : Prop := ∃ n4 : Nat, wl_Arrays_fill_3_5 Q (fun v6 s5 => Q s5) a1 40 n4 0 s
set_option maxHeartbeats 4000000 in
set_option maxRecDepth 100000 in
theorem w_Arrays_fill_3 (X : gX) (ad : Nat → Nat) (a1 : Int32) (s : gS) (Q : gS → Prop) (h : wp_Arrays_fill_3 a1 s Q) (E : gE) (C : gC X E b_AR_fill 4 R_AR) (hRm : gRm E = rm_Arrays_fill_3) (r : gR X E b_AR_fill none (gBv (wC ad X) Q)) : gW X E 0 0 (wC ad X s) [(0, .ref (ad 3)), (1, .int a1)] 0 [] := by
  have h : ∃ n4 : Nat, wl_Arrays_fill_3_5 Q (fun v6 s5 => Q s5) a1 40 n4 0 s := h
  refine g_iconst C 0 d_AR_fill_0 (by decide) ?_
  refine g_istore_n C (lv2 := [(0, .ref (ad 3)), (1, .int a1), (2, .int 0)]) d_AR_fill_1 rfl (by decide) rfl ?_
  refine g_aload_n C d_AR_fill_2 rfl 0 rfl ?_
  refine g_alen C 3 0 40 rfl rfl rfl d_AR_fill_3 ?_
  refine g_istore_n C (lv2 := [(0, .ref (ad 3)), (1, .int a1), (2, .int 0), (3, .int 40)]) d_AR_fill_4 rfl (by decide) rfl ?_
  obtain ⟨n4, h⟩ := h
  refine w_Arrays_fill_3_5 X ad Q (_) a1 40 E C hRm r ?_ n4 0 s h
  intro v6 s5 h
  exact g_vret r d_AR_fill_20 (gBv_mk h)
theorem m_Arrays_fill_3 (X : gX) (ad : Nat → Nat) (a1 : Int32) (s : gS) (Q : gS → Prop) (h : wp_Arrays_fill_3 a1 s Q) (l : Launch) : gM l X y_AR_fill b_AR_fill 4 none rm_Arrays_fill_3 [.ref (ad 3), .int a1] (wC ad X s) (gBv (wC ad X) Q) :=
  gM_of (by decide +kernel) rfl (Nat.le_of_ble_eq_true rfl) rfl (fun E C hRm r => w_Arrays_fill_3 X ad a1 s Q h E C hRm r)
def rm_Disk_clearRow : Room := { frames := 1, cells := 0, slots := 0, locals := 23 }
def wp_Disk_clearRow (s : gS) (Q : gS → Prop) : Prop := wp_Arrays_fill_3 0 s (fun s1 => Q s1)
set_option maxHeartbeats 4000000 in
set_option maxRecDepth 100000 in
theorem w_Disk_clearRow (X : gX) (ad : Nat → Nat) (s : gS) (Q : gS → Prop) (h : wp_Disk_clearRow  s Q) (E : gE) (C : gC X E b_DK_clearRow 1 R_DK) (hRm : gRm E = rm_Disk_clearRow) (r : gR X E b_DK_clearRow none (gBv (wC ad X) Q)) : gW X E 0 0 (wC ad X s) [(0, .ref (ad 1))] 0 [] := by
  have h : wp_Arrays_fill_3 0 s (fun s1 => Q s1) := h
  refine g_aload_n C d_DK_clearRow_0 rfl 0 rfl ?_
  refine g_get C (v := .ref (ad 3)) 1 1 iw_DK rfl rfl (by decide) (gt 119 (by decide +kernel) rfl) rfl rfl d_DK_clearRow_1 ?_
  refine g_iconst C 0 d_DK_clearRow_4 (by decide) ?_
  refine g_callS C (rest := []) (fun l => m_Arrays_fill_3 X ad 0 s _ h l) (gt 371 (by decide +kernel) rfl) cb_AR_fill ⟨rfl, rfl⟩ (by rw [hRm]; decide) ⟨Nat.zero_le _, Nat.zero_le _⟩ rfl rfl (Nat.le_of_ble_eq_true rfl) d_DK_clearRow_5 (gkv (fun s1 h => ?_))
  exact g_vret r d_DK_clearRow_8 (gBv_mk h)
theorem m_Disk_clearRow (X : gX) (ad : Nat → Nat) (s : gS) (Q : gS → Prop) (h : wp_Disk_clearRow  s Q) (l : Launch) : gM l X y_DK_clearRow b_DK_clearRow 1 none rm_Disk_clearRow [.ref (ad 1)] (wC ad X s) (gBv (wC ad X) Q) :=
  gM_of (by decide +kernel) rfl (Nat.le_of_ble_eq_true rfl) rfl (fun E C hRm r => w_Disk_clearRow X ad  s Q h E C hRm r)
def rm_Disk_setRow : Room := { frames := 0, cells := 0, slots := 0, locals := 0 }
def wp_Disk_setRow (a1 : Int32) (a2 : Int32) (s : gS) (Q : gS → Prop) : Prop := ((a1 < 0 → Q s) ∧ (¬ a1 < 0 → ((40 ≤ a1 → Q s) ∧ (¬ 40 ≤ a1 → vp_in a1 40 ∧ (Q (s.1, ua s.2 1 (upd (s.2 1) a1.toNatClampNeg a2)))))))
set_option maxHeartbeats 4000000 in
set_option maxRecDepth 100000 in
theorem w_Disk_setRow (X : gX) (ad : Nat → Nat) (a1 : Int32) (a2 : Int32) (s : gS) (Q : gS → Prop) (h : wp_Disk_setRow a1 a2 s Q) (E : gE) (C : gC X E b_DK_setRow 3 R_DK) (hRm : gRm E = rm_Disk_setRow) (r : gR X E b_DK_setRow none (gBv (wC ad X) Q)) : gW X E 0 0 (wC ad X s) [(0, .ref (ad 1)), (1, .int a1), (2, .int a2)] 0 [] := by
  have h : ((a1 < 0 → Q s) ∧ (¬ a1 < 0 → ((40 ≤ a1 → Q s) ∧ (¬ 40 ≤ a1 → vp_in a1 40 ∧ (Q (s.1, ua s.2 1 (upd (s.2 1) a1.toNatClampNeg a2))))))) := h
  refine g_iload_n C d_DK_setRow_0 rfl 1 rfl ?_
  refine g_if_lt C 20 d_DK_setRow_1 (by decide) (fun c1 => ?_) (fun c1 => ?_)
  · have h := h.1 c1
    exact g_vret r d_DK_setRow_20 (gBv_mk h)
  · have h := h.2 c1
    refine g_iload_n C d_DK_setRow_4 rfl 1 rfl ?_
    refine g_aload_n C d_DK_setRow_5 rfl 0 rfl ?_
    refine g_get C (v := .ref (ad 3)) 1 1 iw_DK rfl rfl (by decide) (gt 119 (by decide +kernel) rfl) rfl rfl d_DK_setRow_6 ?_
    refine g_alen C 3 0 40 rfl rfl rfl d_DK_setRow_9 ?_
    refine g_icmp_ge C 20 d_DK_setRow_10 (by decide) (fun c2 => ?_) (fun c2 => ?_)
    · have h := h.1 c2
      exact g_vret r d_DK_setRow_20 (gBv_mk h)
    · have h := h.2 c2
      refine g_aload_n C d_DK_setRow_13 rfl 0 rfl ?_
      refine g_get C (v := .ref (ad 3)) 1 1 iw_DK rfl rfl (by decide) (gt 119 (by decide +kernel) rfl) rfl rfl d_DK_setRow_14 ?_
      refine g_iload_n C d_DK_setRow_17 rfl 1 rfl ?_
      refine g_iload_n C d_DK_setRow_18 rfl 2 rfl ?_
      obtain ⟨i3, h⟩ := h
      refine g_iast C 3 0 (ws2 := wC ad X (s.1, ua s.2 1 (upd (s.2 1) a1.toNatClampNeg a2))) rfl rfl i3 rfl d_DK_setRow_19 ?_
      exact g_vret r d_DK_setRow_20 (gBv_mk h)
theorem m_Disk_setRow (X : gX) (ad : Nat → Nat) (a1 : Int32) (a2 : Int32) (s : gS) (Q : gS → Prop) (h : wp_Disk_setRow a1 a2 s Q) (l : Launch) : gM l X y_DK_setRow b_DK_setRow 3 none rm_Disk_setRow [.ref (ad 1), .int a1, .int a2] (wC ad X s) (gBv (wC ad X) Q) :=
  gM_of (by decide +kernel) rfl (Nat.le_of_ble_eq_true rfl) rfl (fun E C hRm r => w_Disk_setRow X ad a1 a2 s Q h E C hRm r)
def rm_Disk_sumOf : Room := { frames := 0, cells := 0, slots := 0, locals := 0 }
def wl_Disk_sumOf_25 (Q : Int32 → gS → Prop) (K : Int32 → Int32 → gS → Prop) (x1 : Int32) (x3 : Int32) : Nat → Int32 → Int32 → gS → Prop
  | 0, _, _, _ => False
  | n + 1, x2, x4, s => (((s.1 4) ≤ x4 → K x2 x4 s) ∧ (¬ (s.1 4) ≤ x4 → vp_in (x3 + x4) 8000 ∧ (∀ v6 : Int32, v6 = x2 + ((s.2 0 (x3 + x4).toNatClampNeg) * ((2 * x4) + 1)) → ∀ v7 : Int32, v7 = x4 + 1 → wl_Disk_sumOf_25 Q K x1 x3 n v6 v7 s)))
set_option maxHeartbeats 4000000 in
set_option maxRecDepth 100000 in
theorem w_Disk_sumOf_25 (X : gX) (ad : Nat → Nat) (Q : Int32 → gS → Prop) (K : Int32 → Int32 → gS → Prop) (x1 : Int32) (x3 : Int32) (E : gE) (C : gC X E b_DK_sumOf 5 R_DK) (hRm : gRm E = rm_Disk_sumOf) (r : gR X E b_DK_sumOf (some .int) (gBi (wC ad X) Q)) (hK : ∀ (x2 : Int32) (x4 : Int32) (s : gS), K x2 x4 s → gW X E 0 0 (wC ad X s) [(0, .ref (ad 1)), (1, .int x1), (2, .int x2), (3, .int x3), (4, .int x4)] 59 []) : ∀ (n : Nat) (x2 : Int32) (x4 : Int32) (s : gS), wl_Disk_sumOf_25 Q K x1 x3 n x2 x4 s → gW X E 0 0 (wC ad X s) [(0, .ref (ad 1)), (1, .int x1), (2, .int x2), (3, .int x3), (4, .int x4)] 25 [] := by
  intro n
  induction n with
  | zero => intro x2 x4 s h; exact False.elim h
  | succ n ih =>
    intro x2 x4 s h
    have h : (((s.1 4) ≤ x4 → K x2 x4 s) ∧ (¬ (s.1 4) ≤ x4 → vp_in (x3 + x4) 8000 ∧ (∀ v6 : Int32, v6 = x2 + ((s.2 0 (x3 + x4).toNatClampNeg) * ((2 * x4) + 1)) → ∀ v7 : Int32, v7 = x4 + 1 → wl_Disk_sumOf_25 Q K x1 x3 n v6 v7 s))) := h
    refine g_iload C d_DK_sumOf_25 4 rfl ?_
    refine g_aload_n C d_DK_sumOf_27 rfl 0 rfl ?_
    refine g_get C (v := .int (s.1 4)) 1 3 iw_DK rfl rfl (by decide) (gt 123 (by decide +kernel) rfl) rfl rfl d_DK_sumOf_28 ?_
    refine g_icmp_ge C 59 d_DK_sumOf_31 (by decide) (fun c4 => ?_) (fun c4 => ?_)
    · have h := h.1 c4
      exact hK x2 x4 s h
    · have h := h.2 c4
      refine g_iload_n C d_DK_sumOf_34 rfl 2 rfl ?_
      refine g_aload_n C d_DK_sumOf_35 rfl 0 rfl ?_
      refine g_get C (v := .ref (ad 2)) 1 0 iw_DK rfl rfl (by decide) (gt 118 (by decide +kernel) rfl) rfl rfl d_DK_sumOf_36 ?_
      refine g_iload_n C d_DK_sumOf_39 rfl 3 rfl ?_
      refine g_iload C d_DK_sumOf_40 4 rfl ?_
      refine g_iadd C d_DK_sumOf_42 ?_
      obtain ⟨i5, h⟩ := h
      refine g_iald C 2 0 rfl rfl i5 d_DK_sumOf_43 ?_
      refine g_iconst C 2 d_DK_sumOf_44 (by decide) ?_
      refine g_iload C d_DK_sumOf_45 4 rfl ?_
      refine g_imul C d_DK_sumOf_47 ?_
      refine g_iconst C 1 d_DK_sumOf_48 (by decide) ?_
      refine g_iadd C d_DK_sumOf_49 ?_
      refine g_imul C d_DK_sumOf_50 ?_
      refine g_iadd C d_DK_sumOf_51 ?_
      refine g_topi (fun v6 e_v6 => ?_)
      have h := h v6 e_v6
      refine g_istore_n C (lv2 := [(0, .ref (ad 1)), (1, .int x1), (2, .int v6), (3, .int x3), (4, .int x4)]) d_DK_sumOf_52 rfl (by decide) rfl ?_
      obtain ⟨v7, e_v7⟩ : ∃ y : Int32, y = x4 + 1 := ⟨_, rfl⟩
      have h := h v7 e_v7
      refine g_iinc C (v := v7) (lv2 := [(0, .ref (ad 1)), (1, .int x1), (2, .int v6), (3, .int x3), (4, .int v7)]) d_DK_sumOf_53 4 rfl (by rw [e_v7]; rfl) (by decide) rfl ?_
      refine g_goto C 25 d_DK_sumOf_56 (by decide) ?_
      exact ih v6 v7 s h
def wp_Disk_sumOf (a1 : Int32) (s : gS) (Q : Int32 → gS → Prop) : Prop := ((a1 < 0 → Q 7 s) ∧ (¬ a1 < 0 → (((s.1 3) ≤ a1 → Q 7 s) ∧ (¬ (s.1 3) ≤ a1 → ∀ v3 : Int32, v3 = a1 * (s.1 4) → ∃ n8 : Nat, wl_Disk_sumOf_25 Q (fun v10 v11 s9 => Q v10 s9) a1 v3 n8 7 1 s))))
set_option maxHeartbeats 4000000 in
set_option maxRecDepth 100000 in
theorem w_Disk_sumOf (X : gX) (ad : Nat → Nat) (a1 : Int32) (s : gS) (Q : Int32 → gS → Prop) (h : wp_Disk_sumOf a1 s Q) (E : gE) (C : gC X E b_DK_sumOf 5 R_DK) (hRm : gRm E = rm_Disk_sumOf) (r : gR X E b_DK_sumOf (some .int) (gBi (wC ad X) Q)) : gW X E 0 0 (wC ad X s) [(0, .ref (ad 1)), (1, .int a1)] 0 [] := by
  have h : ((a1 < 0 → Q 7 s) ∧ (¬ a1 < 0 → (((s.1 3) ≤ a1 → Q 7 s) ∧ (¬ (s.1 3) ≤ a1 → ∀ v3 : Int32, v3 = a1 * (s.1 4) → ∃ n8 : Nat, wl_Disk_sumOf_25 Q (fun v10 v11 s9 => Q v10 s9) a1 v3 n8 7 1 s)))) := h
  refine g_bipush C 7 d_DK_sumOf_0 (by decide) ?_
  refine g_istore_n C (lv2 := [(0, .ref (ad 1)), (1, .int a1), (2, .int 7)]) d_DK_sumOf_2 rfl (by decide) rfl ?_
  refine g_iload_n C d_DK_sumOf_3 rfl 1 rfl ?_
  refine g_if_lt C 59 d_DK_sumOf_4 (by decide) (fun c1 => ?_) (fun c1 => ?_)
  · have h := h.1 c1
    refine g_iload_n C d_DK_sumOf_59 rfl 2 rfl ?_
    exact g_iret r rfl d_DK_sumOf_60 (gBi_mk h)
  · have h := h.2 c1
    refine g_iload_n C d_DK_sumOf_7 rfl 1 rfl ?_
    refine g_aload_n C d_DK_sumOf_8 rfl 0 rfl ?_
    refine g_get C (v := .int (s.1 3)) 1 2 iw_DK rfl rfl (by decide) (gt 120 (by decide +kernel) rfl) rfl rfl d_DK_sumOf_9 ?_
    refine g_icmp_ge C 59 d_DK_sumOf_12 (by decide) (fun c2 => ?_) (fun c2 => ?_)
    · have h := h.1 c2
      refine g_iload_n C d_DK_sumOf_59 rfl 2 rfl ?_
      exact g_iret r rfl d_DK_sumOf_60 (gBi_mk h)
    · have h := h.2 c2
      refine g_iload_n C d_DK_sumOf_15 rfl 1 rfl ?_
      refine g_aload_n C d_DK_sumOf_16 rfl 0 rfl ?_
      refine g_get C (v := .int (s.1 4)) 1 3 iw_DK rfl rfl (by decide) (gt 123 (by decide +kernel) rfl) rfl rfl d_DK_sumOf_17 ?_
      refine g_imul C d_DK_sumOf_20 ?_
      refine g_topi (fun v3 e_v3 => ?_)
      have h := h v3 e_v3
      refine g_istore_n C (lv2 := [(0, .ref (ad 1)), (1, .int a1), (2, .int 7), (3, .int v3)]) d_DK_sumOf_21 rfl (by decide) rfl ?_
      refine g_iconst C 1 d_DK_sumOf_22 (by decide) ?_
      refine g_istore C (lv2 := [(0, .ref (ad 1)), (1, .int a1), (2, .int 7), (3, .int v3), (4, .int 1)]) d_DK_sumOf_23 (by decide) rfl ?_
      obtain ⟨n8, h⟩ := h
      refine w_Disk_sumOf_25 X ad Q (_) a1 v3 E C hRm r ?_ n8 7 1 s h
      intro v10 v11 s9 h
      refine g_iload_n C d_DK_sumOf_59 rfl 2 rfl ?_
      exact g_iret r rfl d_DK_sumOf_60 (gBi_mk h)
theorem m_Disk_sumOf (X : gX) (ad : Nat → Nat) (a1 : Int32) (s : gS) (Q : Int32 → gS → Prop) (h : wp_Disk_sumOf a1 s Q) (l : Launch) : gM l X y_DK_sumOf b_DK_sumOf 5 (some .int) rm_Disk_sumOf [.ref (ad 1), .int a1] (wC ad X s) (gBi (wC ad X) Q) :=
  gM_of (by decide +kernel) rfl (Nat.le_of_ble_eq_true rfl) rfl (fun E C hRm r => w_Disk_sumOf X ad a1 s Q h E C hRm r)
def rm_Disk_writeRow : Room := { frames := 1, cells := 0, slots := 0, locals := 24 }
def wp_Disk_writeRow (a1 : Int32) (s : gS) (Q : Int32 → gS → Prop) : Prop := (((s.1 6) ≤ 0 → ((a1 < 0 → Q 1 s) ∧ (¬ a1 < 0 → (((s.1 3) ≤ a1 → Q 1 s) ∧ (¬ (s.1 3) ≤ a1 → (¬ (0 : Int32) < 0 ∧ ¬ (a1 * (s.1 4)) < 0 ∧ ¬ (s.1 4) < 0 ∧ (0 : Int32).toNatClampNeg + (s.1 4).toNatClampNeg ≤ 40 ∧ (a1 * (s.1 4)).toNatClampNeg + (s.1 4).toNatClampNeg ≤ 8000) ∧ (wp_Disk_sumOf a1 (s.1, ua s.2 0 (va_cpy (s.2 1) (s.2 0) (0 : Int32).toNatClampNeg (a1 * (s.1 4)).toNatClampNeg (s.1 4).toNatClampNeg)) (fun r6 s5 => vp_in ((a1 * (s.1 4)) + 0) 8000 ∧ (∀ v8 : Int32, v8 = (s5.1 5) + 1 → Q 1 (up s5.1 5 (v8), ua s5.2 0 (upd (s5.2 0) ((a1 * (s.1 4)) + 0).toNatClampNeg r6)))))))))) ∧ (¬ (s.1 6) ≤ 0 → ∀ v9 : Int32, v9 = (s.1 6) - 1 → ((¬ v9 = 0 → ((a1 < 0 → Q 1 (up s.1 6 (v9), s.2)) ∧ (¬ a1 < 0 → (((s.1 3) ≤ a1 → Q 1 (up s.1 6 (v9), s.2)) ∧ (¬ (s.1 3) ≤ a1 → (¬ (0 : Int32) < 0 ∧ ¬ (a1 * (s.1 4)) < 0 ∧ ¬ (s.1 4) < 0 ∧ (0 : Int32).toNatClampNeg + (s.1 4).toNatClampNeg ≤ 40 ∧ (a1 * (s.1 4)).toNatClampNeg + (s.1 4).toNatClampNeg ≤ 8000) ∧ (wp_Disk_sumOf a1 (up s.1 6 (v9), ua s.2 0 (va_cpy (s.2 1) (s.2 0) (0 : Int32).toNatClampNeg (a1 * (s.1 4)).toNatClampNeg (s.1 4).toNatClampNeg)) (fun r15 s14 => vp_in ((a1 * (s.1 4)) + 0) 8000 ∧ (∀ v17 : Int32, v17 = (s14.1 5) + 1 → Q 1 (up s14.1 5 (v17), ua s14.2 0 (upd (s14.2 0) ((a1 * (s.1 4)) + 0).toNatClampNeg r15)))))))))) ∧ (v9 = 0 → Q 0 (up s.1 6 (v9), s.2)))))
set_option maxHeartbeats 4000000 in
set_option maxRecDepth 100000 in
theorem w_Disk_writeRow (X : gX) (ad : Nat → Nat) (a1 : Int32) (s : gS) (Q : Int32 → gS → Prop) (h : wp_Disk_writeRow a1 s Q) (E : gE) (C : gC X E b_DK_writeRow 2 R_DK) (hRm : gRm E = rm_Disk_writeRow) (r : gR X E b_DK_writeRow (some .boolean) (gBi (wC ad X) Q)) : gW X E 0 0 (wC ad X s) [(0, .ref (ad 1)), (1, .int a1)] 0 [] := by
  have h : (((s.1 6) ≤ 0 → ((a1 < 0 → Q 1 s) ∧ (¬ a1 < 0 → (((s.1 3) ≤ a1 → Q 1 s) ∧ (¬ (s.1 3) ≤ a1 → (¬ (0 : Int32) < 0 ∧ ¬ (a1 * (s.1 4)) < 0 ∧ ¬ (s.1 4) < 0 ∧ (0 : Int32).toNatClampNeg + (s.1 4).toNatClampNeg ≤ 40 ∧ (a1 * (s.1 4)).toNatClampNeg + (s.1 4).toNatClampNeg ≤ 8000) ∧ (wp_Disk_sumOf a1 (s.1, ua s.2 0 (va_cpy (s.2 1) (s.2 0) (0 : Int32).toNatClampNeg (a1 * (s.1 4)).toNatClampNeg (s.1 4).toNatClampNeg)) (fun r6 s5 => vp_in ((a1 * (s.1 4)) + 0) 8000 ∧ (∀ v8 : Int32, v8 = (s5.1 5) + 1 → Q 1 (up s5.1 5 (v8), ua s5.2 0 (upd (s5.2 0) ((a1 * (s.1 4)) + 0).toNatClampNeg r6)))))))))) ∧ (¬ (s.1 6) ≤ 0 → ∀ v9 : Int32, v9 = (s.1 6) - 1 → ((¬ v9 = 0 → ((a1 < 0 → Q 1 (up s.1 6 (v9), s.2)) ∧ (¬ a1 < 0 → (((s.1 3) ≤ a1 → Q 1 (up s.1 6 (v9), s.2)) ∧ (¬ (s.1 3) ≤ a1 → (¬ (0 : Int32) < 0 ∧ ¬ (a1 * (s.1 4)) < 0 ∧ ¬ (s.1 4) < 0 ∧ (0 : Int32).toNatClampNeg + (s.1 4).toNatClampNeg ≤ 40 ∧ (a1 * (s.1 4)).toNatClampNeg + (s.1 4).toNatClampNeg ≤ 8000) ∧ (wp_Disk_sumOf a1 (up s.1 6 (v9), ua s.2 0 (va_cpy (s.2 1) (s.2 0) (0 : Int32).toNatClampNeg (a1 * (s.1 4)).toNatClampNeg (s.1 4).toNatClampNeg)) (fun r15 s14 => vp_in ((a1 * (s.1 4)) + 0) 8000 ∧ (∀ v17 : Int32, v17 = (s14.1 5) + 1 → Q 1 (up s14.1 5 (v17), ua s14.2 0 (upd (s14.2 0) ((a1 * (s.1 4)) + 0).toNatClampNeg r15)))))))))) ∧ (v9 = 0 → Q 0 (up s.1 6 (v9), s.2))))) := h
  refine g_aload_n C d_DK_writeRow_0 rfl 0 rfl ?_
  refine g_get C (v := .int (s.1 6)) 1 5 iw_DK rfl rfl (by decide) (gt 126 (by decide +kernel) rfl) rfl rfl d_DK_writeRow_1 ?_
  refine g_if_le C 26 d_DK_writeRow_4 (by decide) (fun c1 => ?_) (fun c1 => ?_)
  · have h := h.1 c1
    refine g_iload_n C d_DK_writeRow_26 rfl 1 rfl ?_
    refine g_if_lt C 88 d_DK_writeRow_27 (by decide) (fun c2 => ?_) (fun c2 => ?_)
    · have h := h.1 c2
      refine g_iconst C 1 d_DK_writeRow_88 (by decide) ?_
      exact g_iret r rfl d_DK_writeRow_89 (gBi_mk h)
    · have h := h.2 c2
      refine g_iload_n C d_DK_writeRow_30 rfl 1 rfl ?_
      refine g_aload_n C d_DK_writeRow_31 rfl 0 rfl ?_
      refine g_get C (v := .int (s.1 3)) 1 2 iw_DK rfl rfl (by decide) (gt 120 (by decide +kernel) rfl) rfl rfl d_DK_writeRow_32 ?_
      refine g_icmp_ge C 88 d_DK_writeRow_35 (by decide) (fun c3 => ?_) (fun c3 => ?_)
      · have h := h.1 c3
        refine g_iconst C 1 d_DK_writeRow_88 (by decide) ?_
        exact g_iret r rfl d_DK_writeRow_89 (gBi_mk h)
      · have h := h.2 c3
        refine g_aload_n C d_DK_writeRow_38 rfl 0 rfl ?_
        refine g_get C (v := .ref (ad 3)) 1 1 iw_DK rfl rfl (by decide) (gt 119 (by decide +kernel) rfl) rfl rfl d_DK_writeRow_39 ?_
        refine g_iconst C 0 d_DK_writeRow_42 (by decide) ?_
        refine g_aload_n C d_DK_writeRow_43 rfl 0 rfl ?_
        refine g_get C (v := .ref (ad 2)) 1 0 iw_DK rfl rfl (by decide) (gt 118 (by decide +kernel) rfl) rfl rfl d_DK_writeRow_44 ?_
        refine g_iload_n C d_DK_writeRow_47 rfl 1 rfl ?_
        refine g_aload_n C d_DK_writeRow_48 rfl 0 rfl ?_
        refine g_get C (v := .int (s.1 4)) 1 3 iw_DK rfl rfl (by decide) (gt 123 (by decide +kernel) rfl) rfl rfl d_DK_writeRow_49 ?_
        refine g_imul C d_DK_writeRow_52 ?_
        refine g_aload_n C d_DK_writeRow_53 rfl 0 rfl ?_
        refine g_get C (v := .int (s.1 4)) 1 3 iw_DK rfl rfl (by decide) (gt 123 (by decide +kernel) rfl) rfl rfl d_DK_writeRow_54 ?_
        obtain ⟨k4, h⟩ := h
        refine g_copyi C (gt 394 (by decide +kernel) rfl) (gt 396 (by decide +kernel) rfl) (gt 395 (by decide +kernel) rfl) (gt 100 (by decide +kernel) rfl) 3 2 (ws2 := wC ad X (s.1, ua s.2 0 (va_cpy (s.2 1) (s.2 0) (0 : Int32).toNatClampNeg (a1 * (s.1 4)).toNatClampNeg (s.1 4).toNatClampNeg))) rfl rfl rfl rfl k4 (by rw [hRm]; decide) rfl d_DK_writeRow_57 ?_
        refine g_aload_n C d_DK_writeRow_60 rfl 0 rfl ?_
        refine g_get C (v := .ref (ad 2)) 1 0 iw_DK rfl rfl (by decide) (gt 118 (by decide +kernel) rfl) rfl rfl d_DK_writeRow_61 ?_
        refine g_iload_n C d_DK_writeRow_64 rfl 1 rfl ?_
        refine g_aload_n C d_DK_writeRow_65 rfl 0 rfl ?_
        refine g_get C (v := .int (s.1 4)) 1 3 iw_DK rfl rfl (by decide) (gt 123 (by decide +kernel) rfl) rfl rfl d_DK_writeRow_66 ?_
        refine g_imul C d_DK_writeRow_69 ?_
        refine g_iconst C 0 d_DK_writeRow_70 (by decide) ?_
        refine g_iadd C d_DK_writeRow_71 ?_
        refine g_aload_n C d_DK_writeRow_72 rfl 0 rfl ?_
        refine g_iload_n C d_DK_writeRow_73 rfl 1 rfl ?_
        refine g_callV C (rest := [.int ((a1 * (s.1 4)) + 0), .ref (ad 2)]) 1 (fun l => m_Disk_sumOf X ad a1 (s.1, ua s.2 0 (va_cpy (s.2 1) (s.2 0) (0 : Int32).toNatClampNeg (a1 * (s.1 4)).toNatClampNeg (s.1 4).toNatClampNeg)) _ h l) rfl rfl (gt 397 (by decide +kernel) rfl) cb_DK_sumOf ⟨rfl, rfl⟩ (by rw [hRm]; decide) ⟨Nat.zero_le _, Nat.zero_le _⟩ rfl rfl (Nat.le_of_ble_eq_true rfl) d_DK_writeRow_74 (gki (fun r6 s5 h => ?_))
        obtain ⟨i7, h⟩ := h
        refine g_iast C 2 0 (ws2 := wC ad X (s5.1, ua s5.2 0 (upd (s5.2 0) ((a1 * (s.1 4)) + 0).toNatClampNeg r6))) rfl rfl i7 rfl d_DK_writeRow_77 ?_
        refine g_aload_n C d_DK_writeRow_78 rfl 0 rfl ?_
        refine g_dup C rfl d_DK_writeRow_79 ?_
        refine g_get C (v := .int (s5.1 5)) 1 4 iw_DK rfl rfl (by decide) (gt 124 (by decide +kernel) rfl) rfl rfl d_DK_writeRow_80 ?_
        refine g_iconst C 1 d_DK_writeRow_83 (by decide) ?_
        refine g_iadd C d_DK_writeRow_84 ?_
        refine g_topi (fun v8 e_v8 => ?_)
        have h := h v8 e_v8
        refine g_put C (ws2 := wC ad X (up s5.1 5 (v8), ua s5.2 0 (upd (s5.2 0) ((a1 * (s.1 4)) + 0).toNatClampNeg r6))) 1 4 iw_DK ty_DK tyok_DK nm_DK rfl rfl (by decide) (gt 124 (by decide +kernel) rfl) rfl rfl rfl rfl (Nat.le_of_ble_eq_true rfl) rfl d_DK_writeRow_85 ?_
        refine g_iconst C 1 d_DK_writeRow_88 (by decide) ?_
        exact g_iret r rfl d_DK_writeRow_89 (gBi_mk h)
  · have h := h.2 c1
    refine g_aload_n C d_DK_writeRow_7 rfl 0 rfl ?_
    refine g_dup C rfl d_DK_writeRow_8 ?_
    refine g_get C (v := .int (s.1 6)) 1 5 iw_DK rfl rfl (by decide) (gt 126 (by decide +kernel) rfl) rfl rfl d_DK_writeRow_9 ?_
    refine g_iconst C 1 d_DK_writeRow_12 (by decide) ?_
    refine g_isub C d_DK_writeRow_13 ?_
    refine g_topi (fun v9 e_v9 => ?_)
    have h := h v9 e_v9
    refine g_put C (ws2 := wC ad X (up s.1 6 (v9), s.2)) 1 5 iw_DK ty_DK tyok_DK nm_DK rfl rfl (by decide) (gt 126 (by decide +kernel) rfl) rfl rfl rfl rfl (Nat.le_of_ble_eq_true rfl) rfl d_DK_writeRow_14 ?_
    refine g_aload_n C d_DK_writeRow_17 rfl 0 rfl ?_
    refine g_get C (v := .int v9) 1 5 iw_DK rfl rfl (by decide) (gt 126 (by decide +kernel) rfl) rfl rfl d_DK_writeRow_18 ?_
    refine g_if_ne C 26 d_DK_writeRow_21 (by decide) (fun c10 => ?_) (fun c10 => ?_)
    · have h := h.1 c10
      refine g_iload_n C d_DK_writeRow_26 rfl 1 rfl ?_
      refine g_if_lt C 88 d_DK_writeRow_27 (by decide) (fun c11 => ?_) (fun c11 => ?_)
      · have h := h.1 c11
        refine g_iconst C 1 d_DK_writeRow_88 (by decide) ?_
        exact g_iret r rfl d_DK_writeRow_89 (gBi_mk h)
      · have h := h.2 c11
        refine g_iload_n C d_DK_writeRow_30 rfl 1 rfl ?_
        refine g_aload_n C d_DK_writeRow_31 rfl 0 rfl ?_
        refine g_get C (v := .int (s.1 3)) 1 2 iw_DK rfl rfl (by decide) (gt 120 (by decide +kernel) rfl) rfl rfl d_DK_writeRow_32 ?_
        refine g_icmp_ge C 88 d_DK_writeRow_35 (by decide) (fun c12 => ?_) (fun c12 => ?_)
        · have h := h.1 c12
          refine g_iconst C 1 d_DK_writeRow_88 (by decide) ?_
          exact g_iret r rfl d_DK_writeRow_89 (gBi_mk h)
        · have h := h.2 c12
          refine g_aload_n C d_DK_writeRow_38 rfl 0 rfl ?_
          refine g_get C (v := .ref (ad 3)) 1 1 iw_DK rfl rfl (by decide) (gt 119 (by decide +kernel) rfl) rfl rfl d_DK_writeRow_39 ?_
          refine g_iconst C 0 d_DK_writeRow_42 (by decide) ?_
          refine g_aload_n C d_DK_writeRow_43 rfl 0 rfl ?_
          refine g_get C (v := .ref (ad 2)) 1 0 iw_DK rfl rfl (by decide) (gt 118 (by decide +kernel) rfl) rfl rfl d_DK_writeRow_44 ?_
          refine g_iload_n C d_DK_writeRow_47 rfl 1 rfl ?_
          refine g_aload_n C d_DK_writeRow_48 rfl 0 rfl ?_
          refine g_get C (v := .int (s.1 4)) 1 3 iw_DK rfl rfl (by decide) (gt 123 (by decide +kernel) rfl) rfl rfl d_DK_writeRow_49 ?_
          refine g_imul C d_DK_writeRow_52 ?_
          refine g_aload_n C d_DK_writeRow_53 rfl 0 rfl ?_
          refine g_get C (v := .int (s.1 4)) 1 3 iw_DK rfl rfl (by decide) (gt 123 (by decide +kernel) rfl) rfl rfl d_DK_writeRow_54 ?_
          obtain ⟨k13, h⟩ := h
          refine g_copyi C (gt 394 (by decide +kernel) rfl) (gt 396 (by decide +kernel) rfl) (gt 395 (by decide +kernel) rfl) (gt 100 (by decide +kernel) rfl) 3 2 (ws2 := wC ad X (up s.1 6 (v9), ua s.2 0 (va_cpy (s.2 1) (s.2 0) (0 : Int32).toNatClampNeg (a1 * (s.1 4)).toNatClampNeg (s.1 4).toNatClampNeg))) rfl rfl rfl rfl k13 (by rw [hRm]; decide) rfl d_DK_writeRow_57 ?_
          refine g_aload_n C d_DK_writeRow_60 rfl 0 rfl ?_
          refine g_get C (v := .ref (ad 2)) 1 0 iw_DK rfl rfl (by decide) (gt 118 (by decide +kernel) rfl) rfl rfl d_DK_writeRow_61 ?_
          refine g_iload_n C d_DK_writeRow_64 rfl 1 rfl ?_
          refine g_aload_n C d_DK_writeRow_65 rfl 0 rfl ?_
          refine g_get C (v := .int (s.1 4)) 1 3 iw_DK rfl rfl (by decide) (gt 123 (by decide +kernel) rfl) rfl rfl d_DK_writeRow_66 ?_
          refine g_imul C d_DK_writeRow_69 ?_
          refine g_iconst C 0 d_DK_writeRow_70 (by decide) ?_
          refine g_iadd C d_DK_writeRow_71 ?_
          refine g_aload_n C d_DK_writeRow_72 rfl 0 rfl ?_
          refine g_iload_n C d_DK_writeRow_73 rfl 1 rfl ?_
          refine g_callV C (rest := [.int ((a1 * (s.1 4)) + 0), .ref (ad 2)]) 1 (fun l => m_Disk_sumOf X ad a1 (up s.1 6 (v9), ua s.2 0 (va_cpy (s.2 1) (s.2 0) (0 : Int32).toNatClampNeg (a1 * (s.1 4)).toNatClampNeg (s.1 4).toNatClampNeg)) _ h l) rfl rfl (gt 397 (by decide +kernel) rfl) cb_DK_sumOf ⟨rfl, rfl⟩ (by rw [hRm]; decide) ⟨Nat.zero_le _, Nat.zero_le _⟩ rfl rfl (Nat.le_of_ble_eq_true rfl) d_DK_writeRow_74 (gki (fun r15 s14 h => ?_))
          obtain ⟨i16, h⟩ := h
          refine g_iast C 2 0 (ws2 := wC ad X (s14.1, ua s14.2 0 (upd (s14.2 0) ((a1 * (s.1 4)) + 0).toNatClampNeg r15))) rfl rfl i16 rfl d_DK_writeRow_77 ?_
          refine g_aload_n C d_DK_writeRow_78 rfl 0 rfl ?_
          refine g_dup C rfl d_DK_writeRow_79 ?_
          refine g_get C (v := .int (s14.1 5)) 1 4 iw_DK rfl rfl (by decide) (gt 124 (by decide +kernel) rfl) rfl rfl d_DK_writeRow_80 ?_
          refine g_iconst C 1 d_DK_writeRow_83 (by decide) ?_
          refine g_iadd C d_DK_writeRow_84 ?_
          refine g_topi (fun v17 e_v17 => ?_)
          have h := h v17 e_v17
          refine g_put C (ws2 := wC ad X (up s14.1 5 (v17), ua s14.2 0 (upd (s14.2 0) ((a1 * (s.1 4)) + 0).toNatClampNeg r15))) 1 4 iw_DK ty_DK tyok_DK nm_DK rfl rfl (by decide) (gt 124 (by decide +kernel) rfl) rfl rfl rfl rfl (Nat.le_of_ble_eq_true rfl) rfl d_DK_writeRow_85 ?_
          refine g_iconst C 1 d_DK_writeRow_88 (by decide) ?_
          exact g_iret r rfl d_DK_writeRow_89 (gBi_mk h)
    · have h := h.2 c10
      refine g_iconst C 0 d_DK_writeRow_24 (by decide) ?_
      exact g_iret r rfl d_DK_writeRow_25 (gBi_mk h)
theorem m_Disk_writeRow (X : gX) (ad : Nat → Nat) (a1 : Int32) (s : gS) (Q : Int32 → gS → Prop) (h : wp_Disk_writeRow a1 s Q) (l : Launch) : gM l X y_DK_writeRow b_DK_writeRow 2 (some .boolean) rm_Disk_writeRow [.ref (ad 1), .int a1] (wC ad X s) (gBi (wC ad X) Q) :=
  gM_of (by decide +kernel) rfl (Nat.le_of_ble_eq_true rfl) rfl (fun E C hRm r => w_Disk_writeRow X ad a1 s Q h E C hRm r)
def rm_Superblocks_store_6 : Room := { frames := 2, cells := 0, slots := 0, locals := 45 }
def wl_Superblocks_store_6_30 (Q : Int32 → gS → Prop) (K : Int32 → gS → Prop) (x1 : Int32) : Nat → Int32 → gS → Prop
  | 0, _, _ => False
  | n + 1, x3, s => (((s.1 9) ≤ x3 → K x3 s) ∧ (¬ (s.1 9) ≤ x3 → ∀ v8 : Int32, v8 = 3 + (x3 * 4) → vp_in x3 9 ∧ (wp_Disk_setRow (v8 + 0) (s.2 3 x3.toNatClampNeg) s (fun s10 => vp_in x3 9 ∧ (wp_Disk_setRow (v8 + 1) (s10.2 4 x3.toNatClampNeg) s10 (fun s13 => vp_in x3 9 ∧ (wp_Disk_setRow (v8 + 2) (s13.2 5 x3.toNatClampNeg) s13 (fun s16 => vp_in x3 9 ∧ (wp_Disk_setRow (v8 + 3) (s16.2 6 x3.toNatClampNeg) s16 (fun s19 => ∀ v21 : Int32, v21 = x3 + 1 → wl_Superblocks_store_6_30 Q K x1 n v21 s19))))))))))
set_option maxHeartbeats 4000000 in
set_option maxRecDepth 100000 in
theorem w_Superblocks_store_6_30 (X : gX) (ad : Nat → Nat) (Q : Int32 → gS → Prop) (K : Int32 → gS → Prop) (x1 : Int32) (E : gE) (C : gC X E b_SB_store 5 R_SB) (hRm : gRm E = rm_Superblocks_store_6) (r : gR X E b_SB_store (some .boolean) (gBi (wC ad X) Q)) (hK : ∀ (x3 : Int32) (s : gS), K x3 s → gW X E 0 0 (wC ad X s) [(0, .ref (ad 13)), (1, .int x1), (2, .ref (ad 6)), (3, .int x3)] 119 []) : ∀ (n : Nat) (x3 : Int32) (s : gS), wl_Superblocks_store_6_30 Q K x1 n x3 s → gW X E 0 0 (wC ad X s) [(0, .ref (ad 13)), (1, .int x1), (2, .ref (ad 6)), (3, .int x3)] 30 [] := by
  intro n
  induction n with
  | zero => intro x3 s h; exact False.elim h
  | succ n ih =>
    intro x3 s h
    have h : (((s.1 9) ≤ x3 → K x3 s) ∧ (¬ (s.1 9) ≤ x3 → ∀ v8 : Int32, v8 = 3 + (x3 * 4) → vp_in x3 9 ∧ (wp_Disk_setRow (v8 + 0) (s.2 3 x3.toNatClampNeg) s (fun s10 => vp_in x3 9 ∧ (wp_Disk_setRow (v8 + 1) (s10.2 4 x3.toNatClampNeg) s10 (fun s13 => vp_in x3 9 ∧ (wp_Disk_setRow (v8 + 2) (s13.2 5 x3.toNatClampNeg) s13 (fun s16 => vp_in x3 9 ∧ (wp_Disk_setRow (v8 + 3) (s16.2 6 x3.toNatClampNeg) s16 (fun s19 => ∀ v21 : Int32, v21 = x3 + 1 → wl_Superblocks_store_6_30 Q K x1 n v21 s19)))))))))) := h
    refine g_iload_n C d_SB_store_30 rfl 3 rfl ?_
    refine g_aload_n C d_SB_store_31 rfl 2 rfl ?_
    refine g_getN (host := "SpillQueue") C (v := .int (s.1 9)) 6 7 iw_RU rfl rfl (by decide) (gn 184 (by decide +kernel) rfl) rfl rfl d_SB_store_32 ?_
    refine g_icmp_ge C 119 d_SB_store_35 (by decide) (fun c7 => ?_) (fun c7 => ?_)
    · have h := h.1 c7
      exact hK x3 s h
    · have h := h.2 c7
      refine g_iconst C 3 d_SB_store_38 (by decide) ?_
      refine g_iload_n C d_SB_store_39 rfl 3 rfl ?_
      refine g_iconst C 4 d_SB_store_40 (by decide) ?_
      refine g_imul C d_SB_store_41 ?_
      refine g_iadd C d_SB_store_42 ?_
      refine g_topi (fun v8 e_v8 => ?_)
      have h := h v8 e_v8
      refine g_istore C (lv2 := [(0, .ref (ad 13)), (1, .int x1), (2, .ref (ad 6)), (3, .int x3), (4, .int v8)]) d_SB_store_43 (by decide) rfl ?_
      refine g_aload_n C d_SB_store_45 rfl 0 rfl ?_
      refine g_get C (v := .ref (ad 1)) 13 0 iw_SB rfl rfl (by decide) (gt 220 (by decide +kernel) rfl) rfl rfl d_SB_store_46 ?_
      refine g_iload C d_SB_store_49 4 rfl ?_
      refine g_iconst C 0 d_SB_store_51 (by decide) ?_
      refine g_iadd C d_SB_store_52 ?_
      refine g_aload_n C d_SB_store_53 rfl 2 rfl ?_
      refine g_getN (host := "SpillQueue") C (v := .ref (ad 7)) 6 1 iw_RU rfl rfl (by decide) (gn 170 (by decide +kernel) rfl) rfl rfl d_SB_store_54 ?_
      refine g_iload_n C d_SB_store_57 rfl 3 rfl ?_
      obtain ⟨i9, h⟩ := h
      refine g_iald C 7 0 rfl rfl i9 d_SB_store_58 ?_
      refine g_callVN (host := "SpillQueue") C (rest := []) 1 (fun l => m_Disk_setRow X ad (v8 + 0) (s.2 3 x3.toNatClampNeg) s _ h l) rfl rfl (gn 386 (by decide +kernel) rfl) cb_DK_setRow ⟨rfl, rfl⟩ (by rw [hRm]; decide) ⟨Nat.zero_le _, Nat.zero_le _⟩ rfl rfl (Nat.le_of_ble_eq_true rfl) d_SB_store_59 (gkv (fun s10 h => ?_))
      refine g_aload_n C d_SB_store_62 rfl 0 rfl ?_
      refine g_get C (v := .ref (ad 1)) 13 0 iw_SB rfl rfl (by decide) (gt 220 (by decide +kernel) rfl) rfl rfl d_SB_store_63 ?_
      refine g_iload C d_SB_store_66 4 rfl ?_
      refine g_iconst C 1 d_SB_store_68 (by decide) ?_
      refine g_iadd C d_SB_store_69 ?_
      refine g_aload_n C d_SB_store_70 rfl 2 rfl ?_
      refine g_getN (host := "SpillQueue") C (v := .ref (ad 8)) 6 2 iw_RU rfl rfl (by decide) (gn 173 (by decide +kernel) rfl) rfl rfl d_SB_store_71 ?_
      refine g_iload_n C d_SB_store_74 rfl 3 rfl ?_
      obtain ⟨i12, h⟩ := h
      refine g_iald C 8 0 rfl rfl i12 d_SB_store_75 ?_
      refine g_callVN (host := "SpillQueue") C (rest := []) 1 (fun l => m_Disk_setRow X ad (v8 + 1) (s10.2 4 x3.toNatClampNeg) s10 _ h l) rfl rfl (gn 386 (by decide +kernel) rfl) cb_DK_setRow ⟨rfl, rfl⟩ (by rw [hRm]; decide) ⟨Nat.zero_le _, Nat.zero_le _⟩ rfl rfl (Nat.le_of_ble_eq_true rfl) d_SB_store_76 (gkv (fun s13 h => ?_))
      refine g_aload_n C d_SB_store_79 rfl 0 rfl ?_
      refine g_get C (v := .ref (ad 1)) 13 0 iw_SB rfl rfl (by decide) (gt 220 (by decide +kernel) rfl) rfl rfl d_SB_store_80 ?_
      refine g_iload C d_SB_store_83 4 rfl ?_
      refine g_iconst C 2 d_SB_store_85 (by decide) ?_
      refine g_iadd C d_SB_store_86 ?_
      refine g_aload_n C d_SB_store_87 rfl 2 rfl ?_
      refine g_getN (host := "SpillQueue") C (v := .ref (ad 9)) 6 3 iw_RU rfl rfl (by decide) (gn 176 (by decide +kernel) rfl) rfl rfl d_SB_store_88 ?_
      refine g_iload_n C d_SB_store_91 rfl 3 rfl ?_
      obtain ⟨i15, h⟩ := h
      refine g_iald C 9 0 rfl rfl i15 d_SB_store_92 ?_
      refine g_callVN (host := "SpillQueue") C (rest := []) 1 (fun l => m_Disk_setRow X ad (v8 + 2) (s13.2 5 x3.toNatClampNeg) s13 _ h l) rfl rfl (gn 386 (by decide +kernel) rfl) cb_DK_setRow ⟨rfl, rfl⟩ (by rw [hRm]; decide) ⟨Nat.zero_le _, Nat.zero_le _⟩ rfl rfl (Nat.le_of_ble_eq_true rfl) d_SB_store_93 (gkv (fun s16 h => ?_))
      refine g_aload_n C d_SB_store_96 rfl 0 rfl ?_
      refine g_get C (v := .ref (ad 1)) 13 0 iw_SB rfl rfl (by decide) (gt 220 (by decide +kernel) rfl) rfl rfl d_SB_store_97 ?_
      refine g_iload C d_SB_store_100 4 rfl ?_
      refine g_iconst C 3 d_SB_store_102 (by decide) ?_
      refine g_iadd C d_SB_store_103 ?_
      refine g_aload_n C d_SB_store_104 rfl 2 rfl ?_
      refine g_getN (host := "SpillQueue") C (v := .ref (ad 10)) 6 4 iw_RU rfl rfl (by decide) (gn 179 (by decide +kernel) rfl) rfl rfl d_SB_store_105 ?_
      refine g_iload_n C d_SB_store_108 rfl 3 rfl ?_
      obtain ⟨i18, h⟩ := h
      refine g_iald C 10 0 rfl rfl i18 d_SB_store_109 ?_
      refine g_callVN (host := "SpillQueue") C (rest := []) 1 (fun l => m_Disk_setRow X ad (v8 + 3) (s16.2 6 x3.toNatClampNeg) s16 _ h l) rfl rfl (gn 386 (by decide +kernel) rfl) cb_DK_setRow ⟨rfl, rfl⟩ (by rw [hRm]; decide) ⟨Nat.zero_le _, Nat.zero_le _⟩ rfl rfl (Nat.le_of_ble_eq_true rfl) d_SB_store_110 (gkv (fun s19 h => ?_))
      obtain ⟨v21, e_v21⟩ : ∃ y : Int32, y = x3 + 1 := ⟨_, rfl⟩
      have h := h v21 e_v21
      refine g_iinc C (v := v21) (lv2 := [(0, .ref (ad 13)), (1, .int x1), (2, .ref (ad 6)), (3, .int v21), (4, .int v8)]) d_SB_store_113 3 rfl (by rw [e_v21]; rfl) (by decide) rfl ?_
      refine g_goto C 30 d_SB_store_116 (by decide) ?_
      refine g_lv C [0, 1, 2, 3] rfl ?_
      exact ih v21 s19 h
def wp_Superblocks_store_6 (a1 : Int32) (s : gS) (Q : Int32 → gS → Prop) : Prop := wp_Disk_clearRow s (fun s1 => wp_Disk_setRow 1 a1 s1 (fun s3 => wp_Disk_setRow 2 (s3.1 9) s3 (fun s5 => ∃ n22 : Nat, wl_Superblocks_store_6_30 Q (fun v24 s23 => wp_Disk_writeRow (a1 &&& 1) s23 (fun r26 s25 => narrow .boolean (.int r26) = .int r26 ∧ (Q r26 s25))) a1 n22 0 s5)))
set_option maxHeartbeats 4000000 in
set_option maxRecDepth 100000 in
theorem w_Superblocks_store_6 (X : gX) (ad : Nat → Nat) (a1 : Int32) (s : gS) (Q : Int32 → gS → Prop) (h : wp_Superblocks_store_6 a1 s Q) (E : gE) (C : gC X E b_SB_store 5 R_SB) (hRm : gRm E = rm_Superblocks_store_6) (r : gR X E b_SB_store (some .boolean) (gBi (wC ad X) Q)) : gW X E 0 0 (wC ad X s) [(0, .ref (ad 13)), (1, .int a1), (2, .ref (ad 6))] 0 [] := by
  have h : wp_Disk_clearRow s (fun s1 => wp_Disk_setRow 1 a1 s1 (fun s3 => wp_Disk_setRow 2 (s3.1 9) s3 (fun s5 => ∃ n22 : Nat, wl_Superblocks_store_6_30 Q (fun v24 s23 => wp_Disk_writeRow (a1 &&& 1) s23 (fun r26 s25 => narrow .boolean (.int r26) = .int r26 ∧ (Q r26 s25))) a1 n22 0 s5))) := h
  refine g_aload_n C d_SB_store_0 rfl 0 rfl ?_
  refine g_get C (v := .ref (ad 1)) 13 0 iw_SB rfl rfl (by decide) (gt 220 (by decide +kernel) rfl) rfl rfl d_SB_store_1 ?_
  refine g_callVN (host := "SpillQueue") C (rest := []) 1 (fun l => m_Disk_clearRow X ad  s _ h l) rfl rfl (gn 382 (by decide +kernel) rfl) cb_DK_clearRow ⟨rfl, rfl⟩ (by rw [hRm]; decide) ⟨Nat.zero_le _, Nat.zero_le _⟩ rfl rfl (Nat.le_of_ble_eq_true rfl) d_SB_store_4 (gkv (fun s1 h => ?_))
  refine g_aload_n C d_SB_store_7 rfl 0 rfl ?_
  refine g_get C (v := .ref (ad 1)) 13 0 iw_SB rfl rfl (by decide) (gt 220 (by decide +kernel) rfl) rfl rfl d_SB_store_8 ?_
  refine g_iconst C 1 d_SB_store_11 (by decide) ?_
  refine g_iload_n C d_SB_store_12 rfl 1 rfl ?_
  refine g_callVN (host := "SpillQueue") C (rest := []) 1 (fun l => m_Disk_setRow X ad 1 a1 s1 _ h l) rfl rfl (gn 386 (by decide +kernel) rfl) cb_DK_setRow ⟨rfl, rfl⟩ (by rw [hRm]; decide) ⟨Nat.zero_le _, Nat.zero_le _⟩ rfl rfl (Nat.le_of_ble_eq_true rfl) d_SB_store_13 (gkv (fun s3 h => ?_))
  refine g_aload_n C d_SB_store_16 rfl 0 rfl ?_
  refine g_get C (v := .ref (ad 1)) 13 0 iw_SB rfl rfl (by decide) (gt 220 (by decide +kernel) rfl) rfl rfl d_SB_store_17 ?_
  refine g_iconst C 2 d_SB_store_20 (by decide) ?_
  refine g_aload_n C d_SB_store_21 rfl 2 rfl ?_
  refine g_getN (host := "SpillQueue") C (v := .int (s3.1 9)) 6 7 iw_RU rfl rfl (by decide) (gn 184 (by decide +kernel) rfl) rfl rfl d_SB_store_22 ?_
  refine g_callVN (host := "SpillQueue") C (rest := []) 1 (fun l => m_Disk_setRow X ad 2 (s3.1 9) s3 _ h l) rfl rfl (gn 386 (by decide +kernel) rfl) cb_DK_setRow ⟨rfl, rfl⟩ (by rw [hRm]; decide) ⟨Nat.zero_le _, Nat.zero_le _⟩ rfl rfl (Nat.le_of_ble_eq_true rfl) d_SB_store_25 (gkv (fun s5 h => ?_))
  refine g_iconst C 0 d_SB_store_28 (by decide) ?_
  refine g_istore_n C (lv2 := [(0, .ref (ad 13)), (1, .int a1), (2, .ref (ad 6)), (3, .int 0)]) d_SB_store_29 rfl (by decide) rfl ?_
  obtain ⟨n22, h⟩ := h
  refine w_Superblocks_store_6_30 X ad Q (_) a1 E C hRm r ?_ n22 0 s5 h
  intro v24 s23 h
  refine g_aload_n C d_SB_store_119 rfl 0 rfl ?_
  refine g_get C (v := .ref (ad 1)) 13 0 iw_SB rfl rfl (by decide) (gt 220 (by decide +kernel) rfl) rfl rfl d_SB_store_120 ?_
  refine g_iload_n C d_SB_store_123 rfl 1 rfl ?_
  refine g_iconst C 1 d_SB_store_124 (by decide) ?_
  refine g_iand C d_SB_store_125 ?_
  refine g_callVN (host := "SpillQueue") C (rest := []) 1 (fun l => m_Disk_writeRow X ad (a1 &&& 1) s23 _ h l) rfl rfl (gn 390 (by decide +kernel) rfl) cb_DK_writeRow ⟨rfl, rfl⟩ (by rw [hRm]; decide) ⟨Nat.zero_le _, Nat.zero_le _⟩ rfl rfl (Nat.le_of_ble_eq_true rfl) d_SB_store_126 (gki (fun r26 s25 h => ?_))
  obtain ⟨b27, h⟩ := h
  exact g_iret r b27 d_SB_store_129 (gBi_mk h)
theorem m_Superblocks_store_6 (X : gX) (ad : Nat → Nat) (a1 : Int32) (s : gS) (Q : Int32 → gS → Prop) (h : wp_Superblocks_store_6 a1 s Q) (l : Launch) : gM l X y_SB_store b_SB_store 5 (some .boolean) rm_Superblocks_store_6 [.ref (ad 13), .int a1, .ref (ad 6)] (wC ad X s) (gBi (wC ad X) Q) :=
  gM_of (by decide +kernel) rfl (Nat.le_of_ble_eq_true rfl) rfl (fun E C hRm r => w_Superblocks_store_6 X ad a1 s Q h E C hRm r)
