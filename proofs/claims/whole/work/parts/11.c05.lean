def rm_Runs_chooseAll : Room := { frames := 0, cells := 0, slots := 0, locals := 0 }
def wl_Runs_chooseAll_2 (Q : gS → Prop) (K : Int32 → gS → Prop) : Nat → Int32 → gS → Prop
  | 0, _, _ => False
  | n + 1, x1, s => (((s.1 9) ≤ x1 → K x1 s) ∧ (¬ (s.1 9) ≤ x1 → vp_in x1 9 ∧ (∀ v3 : Int32, v3 = x1 + 1 → wl_Runs_chooseAll_2 Q K n v3 (s.1, ua s.2 8 (upd (s.2 8) x1.toNatClampNeg (vp_nar .boolean 1))))))
set_option maxHeartbeats 4000000 in
set_option maxRecDepth 100000 in
theorem w_Runs_chooseAll_2 (X : gX) (ad : Nat → Nat) (Q : gS → Prop) (K : Int32 → gS → Prop) (E : gE) (C : gC X E b_RU_chooseAll 2 R_RU) (hRm : gRm E = rm_Runs_chooseAll) (r : gR X E b_RU_chooseAll none (gBv (wC ad X) Q)) (hK : ∀ (x1 : Int32) (s : gS), K x1 s → gW X E 0 0 (wC ad X s) [(0, .ref (ad 6)), (1, .int x1)] 23 []) : ∀ (n : Nat) (x1 : Int32) (s : gS), wl_Runs_chooseAll_2 Q K n x1 s → gW X E 0 0 (wC ad X s) [(0, .ref (ad 6)), (1, .int x1)] 2 [] := by
  intro n
  induction n with
  | zero => intro x1 s h; exact False.elim h
  | succ n ih =>
    intro x1 s h
    have h : (((s.1 9) ≤ x1 → K x1 s) ∧ (¬ (s.1 9) ≤ x1 → vp_in x1 9 ∧ (∀ v3 : Int32, v3 = x1 + 1 → wl_Runs_chooseAll_2 Q K n v3 (s.1, ua s.2 8 (upd (s.2 8) x1.toNatClampNeg (vp_nar .boolean 1)))))) := h
    refine g_iload_n C d_RU_chooseAll_2 rfl 1 rfl ?_
    refine g_aload_n C d_RU_chooseAll_3 rfl 0 rfl ?_
    refine g_get C (v := .int (s.1 9)) 6 7 iw_RU rfl rfl (by decide) (gt 183 (by decide +kernel) rfl) rfl rfl d_RU_chooseAll_4 ?_
    refine g_icmp_ge C 23 d_RU_chooseAll_7 (by decide) (fun c1 => ?_) (fun c1 => ?_)
    · have h := h.1 c1
      exact hK x1 s h
    · have h := h.2 c1
      refine g_aload_n C d_RU_chooseAll_10 rfl 0 rfl ?_
      refine g_get C (v := .ref (ad 12)) 6 6 iw_RU rfl rfl (by decide) (gt 182 (by decide +kernel) rfl) rfl rfl d_RU_chooseAll_11 ?_
      refine g_iload_n C d_RU_chooseAll_14 rfl 1 rfl ?_
      refine g_iconst C 1 d_RU_chooseAll_15 (by decide) ?_
      obtain ⟨i2, h⟩ := h
      refine g_zast C 12 1 (ws2 := wC ad X (s.1, ua s.2 8 (upd (s.2 8) x1.toNatClampNeg (vp_nar .boolean 1)))) rfl rfl i2 rfl d_RU_chooseAll_16 ?_
      obtain ⟨v3, e_v3⟩ : ∃ y : Int32, y = x1 + 1 := ⟨_, rfl⟩
      have h := h v3 e_v3
      refine g_iinc C (v := v3) (lv2 := [(0, .ref (ad 6)), (1, .int v3)]) d_RU_chooseAll_17 1 rfl (by rw [e_v3]; rfl) (by decide) rfl ?_
      refine g_goto C 2 d_RU_chooseAll_20 (by decide) ?_
      exact ih v3 (s.1, ua s.2 8 (upd (s.2 8) x1.toNatClampNeg (vp_nar .boolean 1))) h
def wp_Runs_chooseAll (s : gS) (Q : gS → Prop) : Prop := ∃ n4 : Nat, wl_Runs_chooseAll_2 Q (fun v6 s5 => Q s5)  n4 0 s
set_option maxHeartbeats 4000000 in
set_option maxRecDepth 100000 in
theorem w_Runs_chooseAll (X : gX) (ad : Nat → Nat) (s : gS) (Q : gS → Prop) (h : wp_Runs_chooseAll  s Q) (E : gE) (C : gC X E b_RU_chooseAll 2 R_RU) (hRm : gRm E = rm_Runs_chooseAll) (r : gR X E b_RU_chooseAll none (gBv (wC ad X) Q)) : gW X E 0 0 (wC ad X s) [(0, .ref (ad 6))] 0 [] := by
  have h : ∃ n4 : Nat, wl_Runs_chooseAll_2 Q (fun v6 s5 => Q s5)  n4 0 s := h
  refine g_iconst C 0 d_RU_chooseAll_0 (by decide) ?_
  refine g_istore_n C (lv2 := [(0, .ref (ad 6)), (1, .int 0)]) d_RU_chooseAll_1 rfl (by decide) rfl ?_
  obtain ⟨n4, h⟩ := h
  refine w_Runs_chooseAll_2 X ad Q (_)  E C hRm r ?_ n4 0 s h
  intro v6 s5 h
  exact g_vret r d_RU_chooseAll_23 (gBv_mk h)
theorem m_Runs_chooseAll (X : gX) (ad : Nat → Nat) (s : gS) (Q : gS → Prop) (h : wp_Runs_chooseAll  s Q) (l : Launch) : gM l X y_RU_chooseAll b_RU_chooseAll 2 none rm_Runs_chooseAll [.ref (ad 6)] (wC ad X s) (gBv (wC ad X) Q) :=
  gM_of (by decide +kernel) rfl (Nat.le_of_ble_eq_true rfl) rfl (fun E C hRm r => w_Runs_chooseAll X ad  s Q h E C hRm r)
def rm_Runs_greatestLevel : Room := { frames := 1, cells := 0, slots := 0, locals := 13 }
def wl_Runs_greatestLevel_9 (Q : Int32 → gS → Prop) (K : Int32 → Int32 → gS → Prop) : Nat → Int32 → Int32 → gS → Prop
  | 0, _, _, _ => False
  | n + 1, x1, x2, s => (((s.1 9) ≤ x2 → K x1 x2 s) ∧ (¬ (s.1 9) ≤ x2 → vp_in x2 9 ∧ (∀ v5 : Int32, v5 = (if x1 < (s.2 6 x2.toNatClampNeg) then (s.2 6 x2.toNatClampNeg) else x1) → ∀ v6 : Int32, v6 = x2 + 1 → wl_Runs_greatestLevel_9 Q K n v5 v6 s)))
set_option maxHeartbeats 4000000 in
set_option maxRecDepth 100000 in
theorem w_Runs_greatestLevel_9 (X : gX) (ad : Nat → Nat) (Q : Int32 → gS → Prop) (K : Int32 → Int32 → gS → Prop) (E : gE) (C : gC X E b_RU_greatestLevel 3 R_RU) (hRm : gRm E = rm_Runs_greatestLevel) (r : gR X E b_RU_greatestLevel (some .int) (gBi (wC ad X) Q)) (hK : ∀ (x1 : Int32) (x2 : Int32) (s : gS), K x1 x2 s → gW X E 0 0 (wC ad X s) [(0, .ref (ad 6)), (1, .int x1), (2, .int x2)] 34 []) : ∀ (n : Nat) (x1 : Int32) (x2 : Int32) (s : gS), wl_Runs_greatestLevel_9 Q K n x1 x2 s → gW X E 0 0 (wC ad X s) [(0, .ref (ad 6)), (1, .int x1), (2, .int x2)] 9 [] := by
  intro n
  induction n with
  | zero => intro x1 x2 s h; exact False.elim h
  | succ n ih =>
    intro x1 x2 s h
    have h : (((s.1 9) ≤ x2 → K x1 x2 s) ∧ (¬ (s.1 9) ≤ x2 → vp_in x2 9 ∧ (∀ v5 : Int32, v5 = (if x1 < (s.2 6 x2.toNatClampNeg) then (s.2 6 x2.toNatClampNeg) else x1) → ∀ v6 : Int32, v6 = x2 + 1 → wl_Runs_greatestLevel_9 Q K n v5 v6 s))) := h
    refine g_iload_n C d_RU_greatestLevel_9 rfl 2 rfl ?_
    refine g_aload_n C d_RU_greatestLevel_10 rfl 0 rfl ?_
    refine g_get C (v := .int (s.1 9)) 6 7 iw_RU rfl rfl (by decide) (gt 183 (by decide +kernel) rfl) rfl rfl d_RU_greatestLevel_11 ?_
    refine g_icmp_ge C 34 d_RU_greatestLevel_14 (by decide) (fun c3 => ?_) (fun c3 => ?_)
    · have h := h.1 c3
      exact hK x1 x2 s h
    · have h := h.2 c3
      refine g_iload_n C d_RU_greatestLevel_17 rfl 1 rfl ?_
      refine g_aload_n C d_RU_greatestLevel_18 rfl 0 rfl ?_
      refine g_get C (v := .ref (ad 10)) 6 4 iw_RU rfl rfl (by decide) (gt 178 (by decide +kernel) rfl) rfl rfl d_RU_greatestLevel_19 ?_
      refine g_iload_n C d_RU_greatestLevel_22 rfl 2 rfl ?_
      obtain ⟨i4, h⟩ := h
      refine g_iald C 10 0 rfl rfl i4 d_RU_greatestLevel_23 ?_
      refine g_mmax C (gt 462 (by decide +kernel) rfl) (gt 463 (by decide +kernel) rfl) (gt 102 (by decide +kernel) rfl) (gt 464 rfl rfl) (by rw [hRm]; decide) ⟨Nat.zero_le _, Nat.zero_le _⟩ d_RU_greatestLevel_24 ?_
      refine g_topi (fun v5 e_v5 => ?_)
      have h := h v5 e_v5
      refine g_istore_n C (lv2 := [(0, .ref (ad 6)), (1, .int v5), (2, .int x2)]) d_RU_greatestLevel_27 rfl (by decide) rfl ?_
      obtain ⟨v6, e_v6⟩ : ∃ y : Int32, y = x2 + 1 := ⟨_, rfl⟩
      have h := h v6 e_v6
      refine g_iinc C (v := v6) (lv2 := [(0, .ref (ad 6)), (1, .int v5), (2, .int v6)]) d_RU_greatestLevel_28 2 rfl (by rw [e_v6]; rfl) (by decide) rfl ?_
      refine g_goto C 9 d_RU_greatestLevel_31 (by decide) ?_
      exact ih v5 v6 s h
def wp_Runs_greatestLevel (s : gS) (Q : Int32 → gS → Prop) : Prop := vp_in 0 9 ∧ (∀ v2 : Int32, v2 = s.2 6 (0 : Int32).toNatClampNeg → ∃ n7 : Nat, wl_Runs_greatestLevel_9 Q (fun v9 v10 s8 => Q v9 s8)  n7 v2 1 s)
set_option maxHeartbeats 4000000 in
set_option maxRecDepth 100000 in
theorem w_Runs_greatestLevel (X : gX) (ad : Nat → Nat) (s : gS) (Q : Int32 → gS → Prop) (h : wp_Runs_greatestLevel  s Q) (E : gE) (C : gC X E b_RU_greatestLevel 3 R_RU) (hRm : gRm E = rm_Runs_greatestLevel) (r : gR X E b_RU_greatestLevel (some .int) (gBi (wC ad X) Q)) : gW X E 0 0 (wC ad X s) [(0, .ref (ad 6))] 0 [] := by
  have h : vp_in 0 9 ∧ (∀ v2 : Int32, v2 = s.2 6 (0 : Int32).toNatClampNeg → ∃ n7 : Nat, wl_Runs_greatestLevel_9 Q (fun v9 v10 s8 => Q v9 s8)  n7 v2 1 s) := h
  refine g_aload_n C d_RU_greatestLevel_0 rfl 0 rfl ?_
  refine g_get C (v := .ref (ad 10)) 6 4 iw_RU rfl rfl (by decide) (gt 178 (by decide +kernel) rfl) rfl rfl d_RU_greatestLevel_1 ?_
  refine g_iconst C 0 d_RU_greatestLevel_4 (by decide) ?_
  obtain ⟨i1, h⟩ := h
  refine g_iald C 10 0 rfl rfl i1 d_RU_greatestLevel_5 ?_
  refine g_topi (fun v2 e_v2 => ?_)
  have h := h v2 e_v2
  refine g_istore_n C (lv2 := [(0, .ref (ad 6)), (1, .int v2)]) d_RU_greatestLevel_6 rfl (by decide) rfl ?_
  refine g_iconst C 1 d_RU_greatestLevel_7 (by decide) ?_
  refine g_istore_n C (lv2 := [(0, .ref (ad 6)), (1, .int v2), (2, .int 1)]) d_RU_greatestLevel_8 rfl (by decide) rfl ?_
  obtain ⟨n7, h⟩ := h
  refine w_Runs_greatestLevel_9 X ad Q (_)  E C hRm r ?_ n7 v2 1 s h
  intro v9 v10 s8 h
  refine g_iload_n C d_RU_greatestLevel_34 rfl 1 rfl ?_
  exact g_iret r rfl d_RU_greatestLevel_35 (gBi_mk h)
theorem m_Runs_greatestLevel (X : gX) (ad : Nat → Nat) (s : gS) (Q : Int32 → gS → Prop) (h : wp_Runs_greatestLevel  s Q) (l : Launch) : gM l X y_RU_greatestLevel b_RU_greatestLevel 3 (some .int) rm_Runs_greatestLevel [.ref (ad 6)] (wC ad X s) (gBi (wC ad X) Q) :=
  gM_of (by decide +kernel) rfl (Nat.le_of_ble_eq_true rfl) rfl (fun E C hRm r => w_Runs_greatestLevel X ad  s Q h E C hRm r)
def rm_SpillQueue_spill : Room := { frames := 5, cells := 0, slots := 0, locals := 120 }
def wp_SpillQueue_spill (s : gS) (Q : Int32 → gS → Prop) : Prop := wp_Disk_mostRuns s (fun r2 s1 => (((s.1 9) < r2 → wp_SpillQueue_makeRun_4 0 s1 (fun r5 s4 => ((¬ r5 = 0 → Q r5 s4) ∧ (r5 = 0 → wp_SpillQueue_mergeCrowdedLevels s4 (fun r8 s7 => Q r8 s7))))) ∧ (¬ (s.1 9) < r2 → wp_Runs_chooseAll s1 (fun s9 => wp_Runs_greatestLevel s9 (fun r12 s11 => wp_SpillQueue_makeRun_6 (r12 + 1) s11 (fun r14 s13 => ((r14 = 0 → wp_SpillQueue_makeRun_4 0 s13 (fun r17 s16 => ((¬ r17 = 0 → Q r17 s16) ∧ (r17 = 0 → wp_SpillQueue_mergeCrowdedLevels s16 (fun r20 s19 => Q r20 s19))))) ∧ (¬ r14 = 0 → Q r14 s13))))))))
set_option maxHeartbeats 4000000 in
set_option maxRecDepth 100000 in
theorem w_SpillQueue_spill (X : gX) (ad : Nat → Nat) (s : gS) (Q : Int32 → gS → Prop) (h : wp_SpillQueue_spill  s Q) (E : gE) (C : gC X E b_SQ_spill 2 R_SQ) (hRm : gRm E = rm_SpillQueue_spill) (r : gR X E b_SQ_spill (some .int) (gBi (wC ad X) Q)) : gW X E 0 0 (wC ad X s) [(0, .ref (ad 0))] 0 [] := by
  have h : wp_Disk_mostRuns s (fun r2 s1 => (((s.1 9) < r2 → wp_SpillQueue_makeRun_4 0 s1 (fun r5 s4 => ((¬ r5 = 0 → Q r5 s4) ∧ (r5 = 0 → wp_SpillQueue_mergeCrowdedLevels s4 (fun r8 s7 => Q r8 s7))))) ∧ (¬ (s.1 9) < r2 → wp_Runs_chooseAll s1 (fun s9 => wp_Runs_greatestLevel s9 (fun r12 s11 => wp_SpillQueue_makeRun_6 (r12 + 1) s11 (fun r14 s13 => ((r14 = 0 → wp_SpillQueue_makeRun_4 0 s13 (fun r17 s16 => ((¬ r17 = 0 → Q r17 s16) ∧ (r17 = 0 → wp_SpillQueue_mergeCrowdedLevels s16 (fun r20 s19 => Q r20 s19))))) ∧ (¬ r14 = 0 → Q r14 s13)))))))) := h
  refine g_aload_n C d_SQ_spill_0 rfl 0 rfl ?_
  refine g_get C (v := .ref (ad 6)) 0 2 iw_SQ rfl rfl (by decide) (gt 231 (by decide +kernel) rfl) rfl rfl d_SQ_spill_1 ?_
  refine g_getN (host := "SpillQueue") C (v := .int (s.1 9)) 6 7 iw_RU rfl rfl (by decide) (gn 185 (by decide +kernel) rfl) rfl rfl d_SQ_spill_4 ?_
  refine g_aload_n C d_SQ_spill_7 rfl 0 rfl ?_
  refine g_get C (v := .ref (ad 1)) 0 0 iw_SQ rfl rfl (by decide) (gt 229 (by decide +kernel) rfl) rfl rfl d_SQ_spill_8 ?_
  refine g_callVN (host := "SpillQueue") C (rest := [.int (s.1 9)]) 1 (fun l => m_Disk_mostRuns X ad  s _ h l) rfl rfl (gn 450 (by decide +kernel) rfl) cb_DK_mostRuns ⟨rfl, rfl⟩ (by rw [hRm]; decide) ⟨Nat.zero_le _, Nat.zero_le _⟩ rfl rfl (Nat.le_of_ble_eq_true rfl) d_SQ_spill_11 (gki (fun r2 s1 h => ?_))
  refine g_icmp_lt C 48 d_SQ_spill_14 (by decide) (fun c3 => ?_) (fun c3 => ?_)
  · have h := h.1 c3
    refine g_aload_n C d_SQ_spill_48 rfl 0 rfl ?_
    refine g_aload_n C d_SQ_spill_49 rfl 0 rfl ?_
    refine g_get C (v := .ref (ad 4)) 0 1 iw_SQ rfl rfl (by decide) (gt 230 (by decide +kernel) rfl) rfl rfl d_SQ_spill_50 ?_
    refine g_iconst C 0 d_SQ_spill_53 (by decide) ?_
    refine g_callV C (rest := []) 0 (fun l => m_SpillQueue_makeRun_4 X ad 0 s1 _ h l) rfl rfl (gt 465 (by decide +kernel) rfl) cb_SQ_makeRun ⟨rfl, rfl⟩ (by rw [hRm]; decide) ⟨Nat.zero_le _, Nat.zero_le _⟩ rfl rfl (Nat.le_of_ble_eq_true rfl) d_SQ_spill_54 (gki (fun r5 s4 h => ?_))
    refine g_istore_n C (lv2 := [(0, .ref (ad 0)), (1, .int r5)]) d_SQ_spill_57 rfl (by decide) rfl ?_
    refine g_iload_n C d_SQ_spill_58 rfl 1 rfl ?_
    refine g_if_ne C 69 d_SQ_spill_59 (by decide) (fun c6 => ?_) (fun c6 => ?_)
    · have h := h.1 c6
      refine g_iload_n C d_SQ_spill_69 rfl 1 rfl ?_
      exact g_iret r rfl d_SQ_spill_70 (gBi_mk h)
    · have h := h.2 c6
      refine g_aload_n C d_SQ_spill_62 rfl 0 rfl ?_
      refine g_callV C (rest := []) 0 (fun l => m_SpillQueue_mergeCrowdedLevels X ad  s4 _ h l) rfl rfl (gt 538 (by decide +kernel) rfl) cb_SQ_mergeCrowdedLevels ⟨rfl, rfl⟩ (by rw [hRm]; decide) ⟨Nat.zero_le _, Nat.zero_le _⟩ rfl rfl (Nat.le_of_ble_eq_true rfl) d_SQ_spill_63 (gki (fun r8 s7 h => ?_))
      refine g_goto C 70 d_SQ_spill_66 (by decide) ?_
      exact g_iret r rfl d_SQ_spill_70 (gBi_mk h)
  · have h := h.2 c3
    refine g_aload_n C d_SQ_spill_17 rfl 0 rfl ?_
    refine g_get C (v := .ref (ad 6)) 0 2 iw_SQ rfl rfl (by decide) (gt 231 (by decide +kernel) rfl) rfl rfl d_SQ_spill_18 ?_
    refine g_callVN (host := "SpillQueue") C (rest := []) 6 (fun l => m_Runs_chooseAll X ad  s1 _ h l) rfl rfl (gn 454 (by decide +kernel) rfl) cb_RU_chooseAll ⟨rfl, rfl⟩ (by rw [hRm]; decide) ⟨Nat.zero_le _, Nat.zero_le _⟩ rfl rfl (Nat.le_of_ble_eq_true rfl) d_SQ_spill_21 (gkv (fun s9 h => ?_))
    refine g_aload_n C d_SQ_spill_24 rfl 0 rfl ?_
    refine g_aload_n C d_SQ_spill_25 rfl 0 rfl ?_
    refine g_get C (v := .ref (ad 6)) 0 2 iw_SQ rfl rfl (by decide) (gt 231 (by decide +kernel) rfl) rfl rfl d_SQ_spill_26 ?_
    refine g_aload_n C d_SQ_spill_29 rfl 0 rfl ?_
    refine g_get C (v := .ref (ad 6)) 0 2 iw_SQ rfl rfl (by decide) (gt 231 (by decide +kernel) rfl) rfl rfl d_SQ_spill_30 ?_
    refine g_callVN (host := "SpillQueue") C (rest := [.ref (ad 6), .ref (ad 0)]) 6 (fun l => m_Runs_greatestLevel X ad  s9 _ h l) rfl rfl (gn 458 (by decide +kernel) rfl) cb_RU_greatestLevel ⟨rfl, rfl⟩ (by rw [hRm]; decide) ⟨Nat.zero_le _, Nat.zero_le _⟩ rfl rfl (Nat.le_of_ble_eq_true rfl) d_SQ_spill_33 (gki (fun r12 s11 h => ?_))
    refine g_iconst C 1 d_SQ_spill_36 (by decide) ?_
    refine g_iadd C d_SQ_spill_37 ?_
    refine g_callV C (rest := []) 0 (fun l => m_SpillQueue_makeRun_6 X ad (r12 + 1) s11 _ h l) rfl rfl (gt 465 (by decide +kernel) rfl) cb_SQ_makeRun ⟨rfl, rfl⟩ (by rw [hRm]; decide) ⟨Nat.zero_le _, Nat.zero_le _⟩ rfl rfl (Nat.le_of_ble_eq_true rfl) d_SQ_spill_38 (gki (fun r14 s13 h => ?_))
    refine g_istore_n C (lv2 := [(0, .ref (ad 0)), (1, .int r14)]) d_SQ_spill_41 rfl (by decide) rfl ?_
    refine g_iload_n C d_SQ_spill_42 rfl 1 rfl ?_
    refine g_if_eq C 48 d_SQ_spill_43 (by decide) (fun c15 => ?_) (fun c15 => ?_)
    · have h := h.1 c15
      refine g_aload_n C d_SQ_spill_48 rfl 0 rfl ?_
      refine g_aload_n C d_SQ_spill_49 rfl 0 rfl ?_
      refine g_get C (v := .ref (ad 4)) 0 1 iw_SQ rfl rfl (by decide) (gt 230 (by decide +kernel) rfl) rfl rfl d_SQ_spill_50 ?_
      refine g_iconst C 0 d_SQ_spill_53 (by decide) ?_
      refine g_callV C (rest := []) 0 (fun l => m_SpillQueue_makeRun_4 X ad 0 s13 _ h l) rfl rfl (gt 465 (by decide +kernel) rfl) cb_SQ_makeRun ⟨rfl, rfl⟩ (by rw [hRm]; decide) ⟨Nat.zero_le _, Nat.zero_le _⟩ rfl rfl (Nat.le_of_ble_eq_true rfl) d_SQ_spill_54 (gki (fun r17 s16 h => ?_))
      refine g_istore_n C (lv2 := [(0, .ref (ad 0)), (1, .int r17)]) d_SQ_spill_57 rfl (by decide) rfl ?_
      refine g_iload_n C d_SQ_spill_58 rfl 1 rfl ?_
      refine g_if_ne C 69 d_SQ_spill_59 (by decide) (fun c18 => ?_) (fun c18 => ?_)
      · have h := h.1 c18
        refine g_iload_n C d_SQ_spill_69 rfl 1 rfl ?_
        exact g_iret r rfl d_SQ_spill_70 (gBi_mk h)
      · have h := h.2 c18
        refine g_aload_n C d_SQ_spill_62 rfl 0 rfl ?_
        refine g_callV C (rest := []) 0 (fun l => m_SpillQueue_mergeCrowdedLevels X ad  s16 _ h l) rfl rfl (gt 538 (by decide +kernel) rfl) cb_SQ_mergeCrowdedLevels ⟨rfl, rfl⟩ (by rw [hRm]; decide) ⟨Nat.zero_le _, Nat.zero_le _⟩ rfl rfl (Nat.le_of_ble_eq_true rfl) d_SQ_spill_63 (gki (fun r20 s19 h => ?_))
        refine g_goto C 70 d_SQ_spill_66 (by decide) ?_
        exact g_iret r rfl d_SQ_spill_70 (gBi_mk h)
    · have h := h.2 c15
      refine g_iload_n C d_SQ_spill_46 rfl 1 rfl ?_
      exact g_iret r rfl d_SQ_spill_47 (gBi_mk h)
theorem m_SpillQueue_spill (X : gX) (ad : Nat → Nat) (s : gS) (Q : Int32 → gS → Prop) (h : wp_SpillQueue_spill  s Q) (l : Launch) : gM l X y_SQ_spill b_SQ_spill 2 (some .int) rm_SpillQueue_spill [.ref (ad 0)] (wC ad X s) (gBi (wC ad X) Q) :=
  gM_of (by decide +kernel) rfl (Nat.le_of_ble_eq_true rfl) rfl (fun E C hRm r => w_SpillQueue_spill X ad  s Q h E C hRm r)
def rm_Runs_headOf : Room := { frames := 1, cells := 0, slots := 0, locals := 21 }
def wp_Runs_headOf (a1 : Int32) (s : gS) (Q : Int32 → gS → Prop) : Prop := wp_Runs_has a1 s (fun r2 s1 => ((r2 = 0 → Q (-1) s1) ∧ (¬ r2 = 0 → vp_in a1 9 ∧ (Q (s1.2 7 a1.toNatClampNeg) s1))))
set_option maxHeartbeats 4000000 in
set_option maxRecDepth 100000 in
theorem w_Runs_headOf (X : gX) (ad : Nat → Nat) (a1 : Int32) (s : gS) (Q : Int32 → gS → Prop) (h : wp_Runs_headOf a1 s Q) (E : gE) (C : gC X E b_RU_headOf 2 R_RU) (hRm : gRm E = rm_Runs_headOf) (r : gR X E b_RU_headOf (some .int) (gBi (wC ad X) Q)) : gW X E 0 0 (wC ad X s) [(0, .ref (ad 6)), (1, .int a1)] 0 [] := by
  have h : wp_Runs_has a1 s (fun r2 s1 => ((r2 = 0 → Q (-1) s1) ∧ (¬ r2 = 0 → vp_in a1 9 ∧ (Q (s1.2 7 a1.toNatClampNeg) s1)))) := h
  refine g_aload_n C d_RU_headOf_0 rfl 0 rfl ?_
  refine g_iload_n C d_RU_headOf_1 rfl 1 rfl ?_
  refine g_callV C (rest := []) 6 (fun l => m_Runs_has X ad a1 s _ h l) rfl rfl (gt 524 (by decide +kernel) rfl) cb_RU_has ⟨rfl, rfl⟩ (by rw [hRm]; decide) ⟨Nat.zero_le _, Nat.zero_le _⟩ rfl rfl (Nat.le_of_ble_eq_true rfl) d_RU_headOf_2 (gki (fun r2 s1 h => ?_))
  refine g_if_eq C 17 d_RU_headOf_5 (by decide) (fun c3 => ?_) (fun c3 => ?_)
  · have h := h.1 c3
    refine g_iconst C (-1) d_RU_headOf_17 (by decide) ?_
    exact g_iret r rfl d_RU_headOf_18 (gBi_mk h)
  · have h := h.2 c3
    refine g_aload_n C d_RU_headOf_8 rfl 0 rfl ?_
    refine g_get C (v := .ref (ad 11)) 6 5 iw_RU rfl rfl (by decide) (gt 181 (by decide +kernel) rfl) rfl rfl d_RU_headOf_9 ?_
    refine g_iload_n C d_RU_headOf_12 rfl 1 rfl ?_
    obtain ⟨i4, h⟩ := h
    refine g_iald C 11 0 rfl rfl i4 d_RU_headOf_13 ?_
    refine g_goto C 18 d_RU_headOf_14 (by decide) ?_
    exact g_iret r rfl d_RU_headOf_18 (gBi_mk h)
theorem m_Runs_headOf (X : gX) (ad : Nat → Nat) (a1 : Int32) (s : gS) (Q : Int32 → gS → Prop) (h : wp_Runs_headOf a1 s Q) (l : Launch) : gM l X y_RU_headOf b_RU_headOf 2 (some .int) rm_Runs_headOf [.ref (ad 6), .int a1] (wC ad X s) (gBi (wC ad X) Q) :=
  gM_of (by decide +kernel) rfl (Nat.le_of_ble_eq_true rfl) rfl (fun E C hRm r => w_Runs_headOf X ad a1 s Q h E C hRm r)
def rm_SpillQueue_isLeastInMemory : Room := { frames := 2, cells := 0, slots := 0, locals := 42 }
def wp_SpillQueue_isLeastInMemory (a1 : Int32) (s : gS) (Q : Int32 → gS → Prop) : Prop := wp_Memory_howMany s (fun r2 s1 => ((r2 ≤ 0 → Q 0 s1) ∧ (¬ r2 ≤ 0 → ((a1 < 0 → Q 1 s1) ∧ (¬ a1 < 0 → wp_Memory_least s1 (fun r6 s5 => wp_Runs_headOf a1 s5 (fun r8 s7 => ((r8 < r6 → Q 0 s7) ∧ (¬ r8 < r6 → Q 1 s7)))))))))
set_option maxHeartbeats 4000000 in
set_option maxRecDepth 100000 in
theorem w_SpillQueue_isLeastInMemory (X : gX) (ad : Nat → Nat) (a1 : Int32) (s : gS) (Q : Int32 → gS → Prop) (h : wp_SpillQueue_isLeastInMemory a1 s Q) (E : gE) (C : gC X E b_SQ_isLeastInMemory 2 R_SQ) (hRm : gRm E = rm_SpillQueue_isLeastInMemory) (r : gR X E b_SQ_isLeastInMemory (some .boolean) (gBi (wC ad X) Q)) : gW X E 0 0 (wC ad X s) [(0, .ref (ad 0)), (1, .int a1)] 0 [] := by
  have h : wp_Memory_howMany s (fun r2 s1 => ((r2 ≤ 0 → Q 0 s1) ∧ (¬ r2 ≤ 0 → ((a1 < 0 → Q 1 s1) ∧ (¬ a1 < 0 → wp_Memory_least s1 (fun r6 s5 => wp_Runs_headOf a1 s5 (fun r8 s7 => ((r8 < r6 → Q 0 s7) ∧ (¬ r8 < r6 → Q 1 s7))))))))) := h
  refine g_aload_n C d_SQ_isLeastInMemory_0 rfl 0 rfl ?_
  refine g_get C (v := .ref (ad 4)) 0 1 iw_SQ rfl rfl (by decide) (gt 230 (by decide +kernel) rfl) rfl rfl d_SQ_isLeastInMemory_1 ?_
  refine g_callV C (rest := []) 4 (fun l => m_Memory_howMany X ad  s _ h l) rfl rfl (gt 264 (by decide +kernel) rfl) cb_ME_howMany ⟨rfl, rfl⟩ (by rw [hRm]; decide) ⟨Nat.zero_le _, Nat.zero_le _⟩ rfl rfl (Nat.le_of_ble_eq_true rfl) d_SQ_isLeastInMemory_4 (gki (fun r2 s1 h => ?_))
  refine g_if_le C 36 d_SQ_isLeastInMemory_7 (by decide) (fun c3 => ?_) (fun c3 => ?_)
  · have h := h.1 c3
    refine g_iconst C 0 d_SQ_isLeastInMemory_36 (by decide) ?_
    exact g_iret r rfl d_SQ_isLeastInMemory_37 (gBi_mk h)
  · have h := h.2 c3
    refine g_iload_n C d_SQ_isLeastInMemory_10 rfl 1 rfl ?_
    refine g_if_lt C 32 d_SQ_isLeastInMemory_11 (by decide) (fun c4 => ?_) (fun c4 => ?_)
    · have h := h.1 c4
      refine g_iconst C 1 d_SQ_isLeastInMemory_32 (by decide) ?_
      refine g_goto C 37 d_SQ_isLeastInMemory_33 (by decide) ?_
      exact g_iret r rfl d_SQ_isLeastInMemory_37 (gBi_mk h)
    · have h := h.2 c4
      refine g_aload_n C d_SQ_isLeastInMemory_14 rfl 0 rfl ?_
      refine g_get C (v := .ref (ad 4)) 0 1 iw_SQ rfl rfl (by decide) (gt 230 (by decide +kernel) rfl) rfl rfl d_SQ_isLeastInMemory_15 ?_
      refine g_callVN (host := "SpillQueue") C (rest := []) 4 (fun l => m_Memory_least X ad  s1 _ h l) rfl rfl (gn 570 (by decide +kernel) rfl) cb_ME_least ⟨rfl, rfl⟩ (by rw [hRm]; decide) ⟨Nat.zero_le _, Nat.zero_le _⟩ rfl rfl (Nat.le_of_ble_eq_true rfl) d_SQ_isLeastInMemory_18 (gki (fun r6 s5 h => ?_))
      refine g_aload_n C d_SQ_isLeastInMemory_21 rfl 0 rfl ?_
      refine g_get C (v := .ref (ad 6)) 0 2 iw_SQ rfl rfl (by decide) (gt 231 (by decide +kernel) rfl) rfl rfl d_SQ_isLeastInMemory_22 ?_
      refine g_iload_n C d_SQ_isLeastInMemory_25 rfl 1 rfl ?_
      refine g_callVN (host := "SpillQueue") C (rest := [.int r6]) 6 (fun l => m_Runs_headOf X ad a1 s5 _ h l) rfl rfl (gn 571 (by decide +kernel) rfl) cb_RU_headOf ⟨rfl, rfl⟩ (by rw [hRm]; decide) ⟨Nat.zero_le _, Nat.zero_le _⟩ rfl rfl (Nat.le_of_ble_eq_true rfl) d_SQ_isLeastInMemory_26 (gki (fun r8 s7 h => ?_))
      refine g_icmp_gt C 36 d_SQ_isLeastInMemory_29 (by decide) (fun c9 => ?_) (fun c9 => ?_)
      · have h := h.1 c9
        refine g_iconst C 0 d_SQ_isLeastInMemory_36 (by decide) ?_
        exact g_iret r rfl d_SQ_isLeastInMemory_37 (gBi_mk h)
      · have h := h.2 c9
        refine g_iconst C 1 d_SQ_isLeastInMemory_32 (by decide) ?_
        refine g_goto C 37 d_SQ_isLeastInMemory_33 (by decide) ?_
        exact g_iret r rfl d_SQ_isLeastInMemory_37 (gBi_mk h)
theorem m_SpillQueue_isLeastInMemory (X : gX) (ad : Nat → Nat) (a1 : Int32) (s : gS) (Q : Int32 → gS → Prop) (h : wp_SpillQueue_isLeastInMemory a1 s Q) (l : Launch) : gM l X y_SQ_isLeastInMemory b_SQ_isLeastInMemory 2 (some .boolean) rm_SpillQueue_isLeastInMemory [.ref (ad 0), .int a1] (wC ad X s) (gBi (wC ad X) Q) :=
  gM_of (by decide +kernel) rfl (Nat.le_of_ble_eq_true rfl) rfl (fun E C hRm r => w_SpillQueue_isLeastInMemory X ad a1 s Q h E C hRm r)
def rm_Superblocks_epochOf : Room := { frames := 1, cells := 0, slots := 0, locals := 22 }
def wp_Superblocks_epochOf (a1 : Int32) (s : gS) (Q : Int32 → gS → Prop) : Prop := wp_Disk_get a1 1 s (fun r2 s1 => Q r2 s1)
set_option maxHeartbeats 4000000 in
set_option maxRecDepth 100000 in
theorem w_Superblocks_epochOf (X : gX) (ad : Nat → Nat) (a1 : Int32) (s : gS) (Q : Int32 → gS → Prop) (h : wp_Superblocks_epochOf a1 s Q) (E : gE) (C : gC X E b_SB_epochOf 2 R_SB) (hRm : gRm E = rm_Superblocks_epochOf) (r : gR X E b_SB_epochOf (some .int) (gBi (wC ad X) Q)) : gW X E 0 0 (wC ad X s) [(0, .ref (ad 13)), (1, .int a1)] 0 [] := by
  have h : wp_Disk_get a1 1 s (fun r2 s1 => Q r2 s1) := h
  refine g_aload_n C d_SB_epochOf_0 rfl 0 rfl ?_
  refine g_get C (v := .ref (ad 1)) 13 0 iw_SB rfl rfl (by decide) (gt 220 (by decide +kernel) rfl) rfl rfl d_SB_epochOf_1 ?_
  refine g_iload_n C d_SB_epochOf_4 rfl 1 rfl ?_
  refine g_iconst C 1 d_SB_epochOf_5 (by decide) ?_
  refine g_callVN (host := "SpillQueue") C (rest := []) 1 (fun l => m_Disk_get X ad a1 1 s _ h l) rfl rfl (gn 630 (by decide +kernel) rfl) cb_DK_get ⟨rfl, rfl⟩ (by rw [hRm]; decide) ⟨Nat.zero_le _, Nat.zero_le _⟩ rfl rfl (Nat.le_of_ble_eq_true rfl) d_SB_epochOf_6 (gki (fun r2 s1 h => ?_))
  exact g_iret r rfl d_SB_epochOf_9 (gBi_mk h)
theorem m_Superblocks_epochOf (X : gX) (ad : Nat → Nat) (a1 : Int32) (s : gS) (Q : Int32 → gS → Prop) (h : wp_Superblocks_epochOf a1 s Q) (l : Launch) : gM l X y_SB_epochOf b_SB_epochOf 2 (some .int) rm_Superblocks_epochOf [.ref (ad 13), .int a1] (wC ad X s) (gBi (wC ad X) Q) :=
  gM_of (by decide +kernel) rfl (Nat.le_of_ble_eq_true rfl) rfl (fun E C hRm r => w_Superblocks_epochOf X ad a1 s Q h E C hRm r)
def rm_BlockSet_clear_14 : Room := { frames := 0, cells := 0, slots := 0, locals := 0 }
def wl_BlockSet_clear_14_2 (Q : gS → Prop) (K : Int32 → gS → Prop) : Nat → Int32 → gS → Prop
  | 0, _, _ => False
  | n + 1, x1, s => ((200 ≤ x1 → K x1 s) ∧ (¬ 200 ≤ x1 → vp_in x1 200 ∧ (∀ v3 : Int32, v3 = x1 + 1 → wl_BlockSet_clear_14_2 Q K n v3 (s.1, ua s.2 9 (upd (s.2 9) x1.toNatClampNeg (vp_nar .boolean 0))))))
set_option maxHeartbeats 4000000 in
set_option maxRecDepth 100000 in
theorem w_BlockSet_clear_14_2 (X : gX) (ad : Nat → Nat) (Q : gS → Prop) (K : Int32 → gS → Prop) (E : gE) (C : gC X E b_BS_clear 2 R_BS) (hRm : gRm E = rm_BlockSet_clear_14) (r : gR X E b_BS_clear none (gBv (wC ad X) Q)) (hK : ∀ (x1 : Int32) (s : gS), K x1 s → gW X E 0 0 (wC ad X s) [(0, .ref (ad 14)), (1, .int x1)] 24 []) : ∀ (n : Nat) (x1 : Int32) (s : gS), wl_BlockSet_clear_14_2 Q K n x1 s → gW X E 0 0 (wC ad X s) [(0, .ref (ad 14)), (1, .int x1)] 2 [] := by
  intro n
  induction n with
  | zero => intro x1 s h; exact False.elim h
  | succ n ih =>
    intro x1 s h
    have h : ((200 ≤ x1 → K x1 s) ∧ (¬ 200 ≤ x1 → vp_in x1 200 ∧ (∀ v3 : Int32, v3 = x1 + 1 → wl_BlockSet_clear_14_2 Q K n v3 (s.1, ua s.2 9 (upd (s.2 9) x1.toNatClampNeg (vp_nar .boolean 0)))))) := h
    refine g_iload_n C d_BS_clear_2 rfl 1 rfl ?_
    refine g_aload_n C d_BS_clear_3 rfl 0 rfl ?_
    refine g_get C (v := .ref (ad 15)) 14 0 iw_BS rfl rfl (by decide) (gt 216 (by decide +kernel) rfl) rfl rfl d_BS_clear_4 ?_
    refine g_alen C 15 1 200 rfl rfl rfl d_BS_clear_7 ?_
    refine g_icmp_ge C 24 d_BS_clear_8 (by decide) (fun c1 => ?_) (fun c1 => ?_)
    · have h := h.1 c1
      exact hK x1 s h
    · have h := h.2 c1
      refine g_aload_n C d_BS_clear_11 rfl 0 rfl ?_
      refine g_get C (v := .ref (ad 15)) 14 0 iw_BS rfl rfl (by decide) (gt 216 (by decide +kernel) rfl) rfl rfl d_BS_clear_12 ?_
      refine g_iload_n C d_BS_clear_15 rfl 1 rfl ?_
      refine g_iconst C 0 d_BS_clear_16 (by decide) ?_
      obtain ⟨i2, h⟩ := h
      refine g_zast C 15 1 (ws2 := wC ad X (s.1, ua s.2 9 (upd (s.2 9) x1.toNatClampNeg (vp_nar .boolean 0)))) rfl rfl i2 rfl d_BS_clear_17 ?_
      obtain ⟨v3, e_v3⟩ : ∃ y : Int32, y = x1 + 1 := ⟨_, rfl⟩
      have h := h v3 e_v3
      refine g_iinc C (v := v3) (lv2 := [(0, .ref (ad 14)), (1, .int v3)]) d_BS_clear_18 1 rfl (by rw [e_v3]; rfl) (by decide) rfl ?_
      refine g_goto C 2 d_BS_clear_21 (by decide) ?_
      exact ih v3 (s.1, ua s.2 9 (upd (s.2 9) x1.toNatClampNeg (vp_nar .boolean 0))) h
def wp_BlockSet_clear_14 (s : gS) (Q : gS → Prop) : Prop := ∃ n4 : Nat, wl_BlockSet_clear_14_2 Q (fun v6 s5 => Q s5)  n4 0 s
set_option maxHeartbeats 4000000 in
set_option maxRecDepth 100000 in
theorem w_BlockSet_clear_14 (X : gX) (ad : Nat → Nat) (s : gS) (Q : gS → Prop) (h : wp_BlockSet_clear_14  s Q) (E : gE) (C : gC X E b_BS_clear 2 R_BS) (hRm : gRm E = rm_BlockSet_clear_14) (r : gR X E b_BS_clear none (gBv (wC ad X) Q)) : gW X E 0 0 (wC ad X s) [(0, .ref (ad 14))] 0 [] := by
  have h : ∃ n4 : Nat, wl_BlockSet_clear_14_2 Q (fun v6 s5 => Q s5)  n4 0 s := h
  refine g_iconst C 0 d_BS_clear_0 (by decide) ?_
  refine g_istore_n C (lv2 := [(0, .ref (ad 14)), (1, .int 0)]) d_BS_clear_1 rfl (by decide) rfl ?_
  obtain ⟨n4, h⟩ := h
  refine w_BlockSet_clear_14_2 X ad Q (_)  E C hRm r ?_ n4 0 s h
  intro v6 s5 h
  exact g_vret r d_BS_clear_24 (gBv_mk h)
theorem m_BlockSet_clear_14 (X : gX) (ad : Nat → Nat) (s : gS) (Q : gS → Prop) (h : wp_BlockSet_clear_14  s Q) (l : Launch) : gM l X y_BS_clear b_BS_clear 2 none rm_BlockSet_clear_14 [.ref (ad 14)] (wC ad X s) (gBv (wC ad X) Q) :=
  gM_of (by decide +kernel) rfl (Nat.le_of_ble_eq_true rfl) rfl (fun E C hRm r => w_BlockSet_clear_14 X ad  s Q h E C hRm r)
def rm_BlockSet_has_14 : Room := { frames := 0, cells := 0, slots := 0, locals := 0 }
def wp_BlockSet_has_14 (a1 : Int32) (s : gS) (Q : Int32 → gS → Prop) : Prop := ((a1 < 0 → Q 0 s) ∧ (¬ a1 < 0 → ((200 ≤ a1 → Q 0 s) ∧ (¬ 200 ≤ a1 → vp_in a1 200 ∧ ((((s.2 9 a1.toNatClampNeg) = 0 → Q 0 s) ∧ (¬ (s.2 9 a1.toNatClampNeg) = 0 → Q 1 s)))))))
set_option maxHeartbeats 4000000 in
set_option maxRecDepth 100000 in
theorem w_BlockSet_has_14 (X : gX) (ad : Nat → Nat) (a1 : Int32) (s : gS) (Q : Int32 → gS → Prop) (h : wp_BlockSet_has_14 a1 s Q) (E : gE) (C : gC X E b_BS_has 2 R_BS) (hRm : gRm E = rm_BlockSet_has_14) (r : gR X E b_BS_has (some .boolean) (gBi (wC ad X) Q)) : gW X E 0 0 (wC ad X s) [(0, .ref (ad 14)), (1, .int a1)] 0 [] := by
  have h : ((a1 < 0 → Q 0 s) ∧ (¬ a1 < 0 → ((200 ≤ a1 → Q 0 s) ∧ (¬ 200 ≤ a1 → vp_in a1 200 ∧ ((((s.2 9 a1.toNatClampNeg) = 0 → Q 0 s) ∧ (¬ (s.2 9 a1.toNatClampNeg) = 0 → Q 1 s))))))) := h
  refine g_iload_n C d_BS_has_0 rfl 1 rfl ?_
  refine g_if_lt C 26 d_BS_has_1 (by decide) (fun c1 => ?_) (fun c1 => ?_)
  · have h := h.1 c1
    refine g_iconst C 0 d_BS_has_26 (by decide) ?_
    exact g_iret r rfl d_BS_has_27 (gBi_mk h)
  · have h := h.2 c1
    refine g_iload_n C d_BS_has_4 rfl 1 rfl ?_
    refine g_aload_n C d_BS_has_5 rfl 0 rfl ?_
    refine g_get C (v := .ref (ad 15)) 14 0 iw_BS rfl rfl (by decide) (gt 216 (by decide +kernel) rfl) rfl rfl d_BS_has_6 ?_
    refine g_alen C 15 1 200 rfl rfl rfl d_BS_has_9 ?_
    refine g_icmp_ge C 26 d_BS_has_10 (by decide) (fun c2 => ?_) (fun c2 => ?_)
    · have h := h.1 c2
      refine g_iconst C 0 d_BS_has_26 (by decide) ?_
      exact g_iret r rfl d_BS_has_27 (gBi_mk h)
    · have h := h.2 c2
      refine g_aload_n C d_BS_has_13 rfl 0 rfl ?_
      refine g_get C (v := .ref (ad 15)) 14 0 iw_BS rfl rfl (by decide) (gt 216 (by decide +kernel) rfl) rfl rfl d_BS_has_14 ?_
      refine g_iload_n C d_BS_has_17 rfl 1 rfl ?_
      obtain ⟨i3, h⟩ := h
      refine g_zald C 15 1 rfl rfl i3 d_BS_has_18 ?_
      refine g_if_eq C 26 d_BS_has_19 (by decide) (fun c4 => ?_) (fun c4 => ?_)
      · have h := h.1 c4
        refine g_iconst C 0 d_BS_has_26 (by decide) ?_
        exact g_iret r rfl d_BS_has_27 (gBi_mk h)
      · have h := h.2 c4
        refine g_iconst C 1 d_BS_has_22 (by decide) ?_
        refine g_goto C 27 d_BS_has_23 (by decide) ?_
        exact g_iret r rfl d_BS_has_27 (gBi_mk h)
theorem m_BlockSet_has_14 (X : gX) (ad : Nat → Nat) (a1 : Int32) (s : gS) (Q : Int32 → gS → Prop) (h : wp_BlockSet_has_14 a1 s Q) (l : Launch) : gM l X y_BS_has b_BS_has 2 (some .boolean) rm_BlockSet_has_14 [.ref (ad 14), .int a1] (wC ad X s) (gBi (wC ad X) Q) :=
  gM_of (by decide +kernel) rfl (Nat.le_of_ble_eq_true rfl) rfl (fun E C hRm r => w_BlockSet_has_14 X ad a1 s Q h E C hRm r)
def rm_BlockSet_add_14 : Room := { frames := 0, cells := 0, slots := 0, locals := 0 }
def wp_BlockSet_add_14 (a1 : Int32) (s : gS) (Q : gS → Prop) : Prop := ((a1 < 0 → Q s) ∧ (¬ a1 < 0 → ((200 ≤ a1 → Q s) ∧ (¬ 200 ≤ a1 → vp_in a1 200 ∧ (Q (s.1, ua s.2 9 (upd (s.2 9) a1.toNatClampNeg (vp_nar .boolean 1))))))))
set_option maxHeartbeats 4000000 in
set_option maxRecDepth 100000 in
theorem w_BlockSet_add_14 (X : gX) (ad : Nat → Nat) (a1 : Int32) (s : gS) (Q : gS → Prop) (h : wp_BlockSet_add_14 a1 s Q) (E : gE) (C : gC X E b_BS_add 2 R_BS) (hRm : gRm E = rm_BlockSet_add_14) (r : gR X E b_BS_add none (gBv (wC ad X) Q)) : gW X E 0 0 (wC ad X s) [(0, .ref (ad 14)), (1, .int a1)] 0 [] := by
  have h : ((a1 < 0 → Q s) ∧ (¬ a1 < 0 → ((200 ≤ a1 → Q s) ∧ (¬ 200 ≤ a1 → vp_in a1 200 ∧ (Q (s.1, ua s.2 9 (upd (s.2 9) a1.toNatClampNeg (vp_nar .boolean 1)))))))) := h
  refine g_iload_n C d_BS_add_0 rfl 1 rfl ?_
  refine g_if_lt C 20 d_BS_add_1 (by decide) (fun c1 => ?_) (fun c1 => ?_)
  · have h := h.1 c1
    exact g_vret r d_BS_add_20 (gBv_mk h)
  · have h := h.2 c1
    refine g_iload_n C d_BS_add_4 rfl 1 rfl ?_
    refine g_aload_n C d_BS_add_5 rfl 0 rfl ?_
    refine g_get C (v := .ref (ad 15)) 14 0 iw_BS rfl rfl (by decide) (gt 216 (by decide +kernel) rfl) rfl rfl d_BS_add_6 ?_
    refine g_alen C 15 1 200 rfl rfl rfl d_BS_add_9 ?_
    refine g_icmp_ge C 20 d_BS_add_10 (by decide) (fun c2 => ?_) (fun c2 => ?_)
    · have h := h.1 c2
      exact g_vret r d_BS_add_20 (gBv_mk h)
    · have h := h.2 c2
      refine g_aload_n C d_BS_add_13 rfl 0 rfl ?_
      refine g_get C (v := .ref (ad 15)) 14 0 iw_BS rfl rfl (by decide) (gt 216 (by decide +kernel) rfl) rfl rfl d_BS_add_14 ?_
      refine g_iload_n C d_BS_add_17 rfl 1 rfl ?_
      refine g_iconst C 1 d_BS_add_18 (by decide) ?_
      obtain ⟨i3, h⟩ := h
      refine g_zast C 15 1 (ws2 := wC ad X (s.1, ua s.2 9 (upd (s.2 9) a1.toNatClampNeg (vp_nar .boolean 1)))) rfl rfl i3 rfl d_BS_add_19 ?_
      exact g_vret r d_BS_add_20 (gBv_mk h)
theorem m_BlockSet_add_14 (X : gX) (ad : Nat → Nat) (a1 : Int32) (s : gS) (Q : gS → Prop) (h : wp_BlockSet_add_14 a1 s Q) (l : Launch) : gM l X y_BS_add b_BS_add 2 none rm_BlockSet_add_14 [.ref (ad 14), .int a1] (wC ad X s) (gBv (wC ad X) Q) :=
  gM_of (by decide +kernel) rfl (Nat.le_of_ble_eq_true rfl) rfl (fun E C hRm r => w_BlockSet_add_14 X ad a1 s Q h E C hRm r)
def rm_Superblocks_isNewRightBlock : Room := { frames := 1, cells := 0, slots := 0, locals := 24 }
def wp_Superblocks_isNewRightBlock (a1 : Int32) (s : gS) (Q : Int32 → gS → Prop) : Prop := ((a1 < 2 → Q 0 s) ∧ (¬ a1 < 2 → (((s.1 3) ≤ a1 → Q 0 s) ∧ (¬ (s.1 3) ≤ a1 → wp_BlockSet_has_14 a1 s (fun r4 s3 => ((r4 = 0 → wp_BlockSet_add_14 a1 s3 (fun s6 => wp_Disk_get a1 0 s6 (fun r9 s8 => wp_Disk_sumOf a1 s8 (fun r11 s10 => ((¬ r9 = r11 → Q 0 s10) ∧ (r9 = r11 → Q 1 s10)))))) ∧ (¬ r4 = 0 → Q 0 s3)))))))
set_option maxHeartbeats 4000000 in
set_option maxRecDepth 100000 in
theorem w_Superblocks_isNewRightBlock (X : gX) (ad : Nat → Nat) (a1 : Int32) (s : gS) (Q : Int32 → gS → Prop) (h : wp_Superblocks_isNewRightBlock a1 s Q) (E : gE) (C : gC X E b_SB_isNewRightBlock 2 R_SB) (hRm : gRm E = rm_Superblocks_isNewRightBlock) (r : gR X E b_SB_isNewRightBlock (some .boolean) (gBi (wC ad X) Q)) : gW X E 0 0 (wC ad X s) [(0, .ref (ad 13)), (1, .int a1)] 0 [] := by
  have h : ((a1 < 2 → Q 0 s) ∧ (¬ a1 < 2 → (((s.1 3) ≤ a1 → Q 0 s) ∧ (¬ (s.1 3) ≤ a1 → wp_BlockSet_has_14 a1 s (fun r4 s3 => ((r4 = 0 → wp_BlockSet_add_14 a1 s3 (fun s6 => wp_Disk_get a1 0 s6 (fun r9 s8 => wp_Disk_sumOf a1 s8 (fun r11 s10 => ((¬ r9 = r11 → Q 0 s10) ∧ (r9 = r11 → Q 1 s10)))))) ∧ (¬ r4 = 0 → Q 0 s3))))))) := h
  refine g_iload_n C d_SB_isNewRightBlock_0 rfl 1 rfl ?_
  refine g_iconst C 2 d_SB_isNewRightBlock_1 (by decide) ?_
  refine g_icmp_lt C 27 d_SB_isNewRightBlock_2 (by decide) (fun c1 => ?_) (fun c1 => ?_)
  · have h := h.1 c1
    refine g_iconst C 0 d_SB_isNewRightBlock_27 (by decide) ?_
    exact g_iret r rfl d_SB_isNewRightBlock_28 (gBi_mk h)
  · have h := h.2 c1
    refine g_iload_n C d_SB_isNewRightBlock_5 rfl 1 rfl ?_
    refine g_aload_n C d_SB_isNewRightBlock_6 rfl 0 rfl ?_
    refine g_get C (v := .ref (ad 1)) 13 0 iw_SB rfl rfl (by decide) (gt 220 (by decide +kernel) rfl) rfl rfl d_SB_isNewRightBlock_7 ?_
    refine g_getN (host := "SpillQueue") C (v := .int (s.1 3)) 1 2 iw_DK rfl rfl (by decide) (gn 121 (by decide +kernel) rfl) rfl rfl d_SB_isNewRightBlock_10 ?_
    refine g_icmp_ge C 27 d_SB_isNewRightBlock_13 (by decide) (fun c2 => ?_) (fun c2 => ?_)
    · have h := h.1 c2
      refine g_iconst C 0 d_SB_isNewRightBlock_27 (by decide) ?_
      exact g_iret r rfl d_SB_isNewRightBlock_28 (gBi_mk h)
    · have h := h.2 c2
      refine g_aload_n C d_SB_isNewRightBlock_16 rfl 0 rfl ?_
      refine g_get C (v := .ref (ad 14)) 13 1 iw_SB rfl rfl (by decide) (gt 221 (by decide +kernel) rfl) rfl rfl d_SB_isNewRightBlock_17 ?_
      refine g_iload_n C d_SB_isNewRightBlock_20 rfl 1 rfl ?_
      refine g_callVN (host := "SpillQueue") C (rest := []) 14 (fun l => m_BlockSet_has_14 X ad a1 s _ h l) rfl rfl (gn 648 (by decide +kernel) rfl) cb_BS_has ⟨rfl, rfl⟩ (by rw [hRm]; decide) ⟨Nat.zero_le _, Nat.zero_le _⟩ rfl rfl (Nat.le_of_ble_eq_true rfl) d_SB_isNewRightBlock_21 (gki (fun r4 s3 h => ?_))
      refine g_if_eq C 29 d_SB_isNewRightBlock_24 (by decide) (fun c5 => ?_) (fun c5 => ?_)
      · have h := h.1 c5
        refine g_aload_n C d_SB_isNewRightBlock_29 rfl 0 rfl ?_
        refine g_get C (v := .ref (ad 14)) 13 1 iw_SB rfl rfl (by decide) (gt 221 (by decide +kernel) rfl) rfl rfl d_SB_isNewRightBlock_30 ?_
        refine g_iload_n C d_SB_isNewRightBlock_33 rfl 1 rfl ?_
        refine g_callVN (host := "SpillQueue") C (rest := []) 14 (fun l => m_BlockSet_add_14 X ad a1 s3 _ h l) rfl rfl (gn 649 (by decide +kernel) rfl) cb_BS_add ⟨rfl, rfl⟩ (by rw [hRm]; decide) ⟨Nat.zero_le _, Nat.zero_le _⟩ rfl rfl (Nat.le_of_ble_eq_true rfl) d_SB_isNewRightBlock_34 (gkv (fun s6 h => ?_))
        refine g_aload_n C d_SB_isNewRightBlock_37 rfl 0 rfl ?_
        refine g_get C (v := .ref (ad 1)) 13 0 iw_SB rfl rfl (by decide) (gt 220 (by decide +kernel) rfl) rfl rfl d_SB_isNewRightBlock_38 ?_
        refine g_iload_n C d_SB_isNewRightBlock_41 rfl 1 rfl ?_
        refine g_iconst C 0 d_SB_isNewRightBlock_42 (by decide) ?_
        refine g_callVN (host := "SpillQueue") C (rest := []) 1 (fun l => m_Disk_get X ad a1 0 s6 _ h l) rfl rfl (gn 630 (by decide +kernel) rfl) cb_DK_get ⟨rfl, rfl⟩ (by rw [hRm]; decide) ⟨Nat.zero_le _, Nat.zero_le _⟩ rfl rfl (Nat.le_of_ble_eq_true rfl) d_SB_isNewRightBlock_43 (gki (fun r9 s8 h => ?_))
        refine g_aload_n C d_SB_isNewRightBlock_46 rfl 0 rfl ?_
        refine g_get C (v := .ref (ad 1)) 13 0 iw_SB rfl rfl (by decide) (gt 220 (by decide +kernel) rfl) rfl rfl d_SB_isNewRightBlock_47 ?_
        refine g_iload_n C d_SB_isNewRightBlock_50 rfl 1 rfl ?_
        refine g_callVN (host := "SpillQueue") C (rest := [.int r9]) 1 (fun l => m_Disk_sumOf X ad a1 s8 _ h l) rfl rfl (gn 631 (by decide +kernel) rfl) cb_DK_sumOf ⟨rfl, rfl⟩ (by rw [hRm]; decide) ⟨Nat.zero_le _, Nat.zero_le _⟩ rfl rfl (Nat.le_of_ble_eq_true rfl) d_SB_isNewRightBlock_51 (gki (fun r11 s10 h => ?_))
        refine g_icmp_ne C 61 d_SB_isNewRightBlock_54 (by decide) (fun c12 => ?_) (fun c12 => ?_)
        · have h := h.1 c12
          refine g_iconst C 0 d_SB_isNewRightBlock_61 (by decide) ?_
          exact g_iret r rfl d_SB_isNewRightBlock_62 (gBi_mk h)
        · have h := h.2 c12
          refine g_iconst C 1 d_SB_isNewRightBlock_57 (by decide) ?_
          refine g_goto C 62 d_SB_isNewRightBlock_58 (by decide) ?_
          exact g_iret r rfl d_SB_isNewRightBlock_62 (gBi_mk h)
      · have h := h.2 c5
        refine g_iconst C 0 d_SB_isNewRightBlock_27 (by decide) ?_
        exact g_iret r rfl d_SB_isNewRightBlock_28 (gBi_mk h)
theorem m_Superblocks_isNewRightBlock (X : gX) (ad : Nat → Nat) (a1 : Int32) (s : gS) (Q : Int32 → gS → Prop) (h : wp_Superblocks_isNewRightBlock a1 s Q) (l : Launch) : gM l X y_SB_isNewRightBlock b_SB_isNewRightBlock 2 (some .boolean) rm_Superblocks_isNewRightBlock [.ref (ad 13), .int a1] (wC ad X s) (gBi (wC ad X) Q) :=
  gM_of (by decide +kernel) rfl (Nat.le_of_ble_eq_true rfl) rfl (fun E C hRm r => w_Superblocks_isNewRightBlock X ad a1 s Q h E C hRm r)
def rm_Superblocks_lastOfRising : Room := { frames := 1, cells := 0, slots := 0, locals := 22 }
def wl_Superblocks_lastOfRising_7 (Q : Int32 → gS → Prop) (K : Int32 → Int32 → gS → Prop) (x1 : Int32) (x2 : Int32) (x3 : Int32) (x4 : Int32) : Nat → Int32 → Int32 → gS → Prop
  | 0, _, _, _ => False
  | n + 1, x5, x6, s => ((x3 ≤ x6 → K x5 x6 s) ∧ (¬ x3 ≤ x6 → wp_Disk_get x1 (2 + x6) s (fun r3 s2 => ((x5 ≤ r3 → ∀ v5 : Int32, v5 = x6 + 1 → wl_Superblocks_lastOfRising_7 Q K x1 x2 x3 x4 n r3 v5 s2) ∧ (¬ x5 ≤ r3 → Q (-1) s2)))))
set_option maxHeartbeats 4000000 in
set_option maxRecDepth 100000 in
theorem w_Superblocks_lastOfRising_7 (X : gX) (ad : Nat → Nat) (Q : Int32 → gS → Prop) (K : Int32 → Int32 → gS → Prop) (x1 : Int32) (x2 : Int32) (x3 : Int32) (x4 : Int32) (E : gE) (C : gC X E b_SB_lastOfRising 8 R_SB) (hRm : gRm E = rm_Superblocks_lastOfRising) (r : gR X E b_SB_lastOfRising (some .int) (gBi (wC ad X) Q)) (hK : ∀ (x5 : Int32) (x6 : Int32) (s : gS), K x5 x6 s → gW X E 0 0 (wC ad X s) [(0, .ref (ad 13)), (1, .int x1), (2, .int x2), (3, .int x3), (4, .int x4), (5, .int x5), (6, .int x6)] 46 []) : ∀ (n : Nat) (x5 : Int32) (x6 : Int32) (s : gS), wl_Superblocks_lastOfRising_7 Q K x1 x2 x3 x4 n x5 x6 s → gW X E 0 0 (wC ad X s) [(0, .ref (ad 13)), (1, .int x1), (2, .int x2), (3, .int x3), (4, .int x4), (5, .int x5), (6, .int x6)] 7 [] := by
  intro n
  induction n with
  | zero => intro x5 x6 s h; exact False.elim h
  | succ n ih =>
    intro x5 x6 s h
    have h : ((x3 ≤ x6 → K x5 x6 s) ∧ (¬ x3 ≤ x6 → wp_Disk_get x1 (2 + x6) s (fun r3 s2 => ((x5 ≤ r3 → ∀ v5 : Int32, v5 = x6 + 1 → wl_Superblocks_lastOfRising_7 Q K x1 x2 x3 x4 n r3 v5 s2) ∧ (¬ x5 ≤ r3 → Q (-1) s2))))) := h
    refine g_iload C d_SB_lastOfRising_7 6 rfl ?_
    refine g_iload_n C d_SB_lastOfRising_9 rfl 3 rfl ?_
    refine g_icmp_ge C 46 d_SB_lastOfRising_10 (by decide) (fun c1 => ?_) (fun c1 => ?_)
    · have h := h.1 c1
      exact hK x5 x6 s h
    · have h := h.2 c1
      refine g_aload_n C d_SB_lastOfRising_13 rfl 0 rfl ?_
      refine g_get C (v := .ref (ad 1)) 13 0 iw_SB rfl rfl (by decide) (gt 220 (by decide +kernel) rfl) rfl rfl d_SB_lastOfRising_14 ?_
      refine g_iload_n C d_SB_lastOfRising_17 rfl 1 rfl ?_
      refine g_iconst C 2 d_SB_lastOfRising_18 (by decide) ?_
      refine g_iload C d_SB_lastOfRising_19 6 rfl ?_
      refine g_iadd C d_SB_lastOfRising_21 ?_
      refine g_callVN (host := "SpillQueue") C (rest := []) 1 (fun l => m_Disk_get X ad x1 (2 + x6) s _ h l) rfl rfl (gn 630 (by decide +kernel) rfl) cb_DK_get ⟨rfl, rfl⟩ (by rw [hRm]; decide) ⟨Nat.zero_le _, Nat.zero_le _⟩ rfl rfl (Nat.le_of_ble_eq_true rfl) d_SB_lastOfRising_22 (gki (fun r3 s2 h => ?_))
      refine g_istore C (lv2 := [(0, .ref (ad 13)), (1, .int x1), (2, .int x2), (3, .int x3), (4, .int x4), (5, .int x5), (6, .int x6), (7, .int r3)]) d_SB_lastOfRising_25 (by decide) rfl ?_
      refine g_iload C d_SB_lastOfRising_27 7 rfl ?_
      refine g_iload C d_SB_lastOfRising_29 5 rfl ?_
      refine g_icmp_ge C 36 d_SB_lastOfRising_31 (by decide) (fun c4 => ?_) (fun c4 => ?_)
      · have h := h.1 c4
        refine g_iload C d_SB_lastOfRising_36 7 rfl ?_
        refine g_istore C (lv2 := [(0, .ref (ad 13)), (1, .int x1), (2, .int x2), (3, .int x3), (4, .int x4), (5, .int r3), (6, .int x6), (7, .int r3)]) d_SB_lastOfRising_38 (by decide) rfl ?_
        obtain ⟨v5, e_v5⟩ : ∃ y : Int32, y = x6 + 1 := ⟨_, rfl⟩
        have h := h v5 e_v5
        refine g_iinc C (v := v5) (lv2 := [(0, .ref (ad 13)), (1, .int x1), (2, .int x2), (3, .int x3), (4, .int x4), (5, .int r3), (6, .int v5), (7, .int r3)]) d_SB_lastOfRising_40 6 rfl (by rw [e_v5]; rfl) (by decide) rfl ?_
        refine g_goto C 7 d_SB_lastOfRising_43 (by decide) ?_
        refine g_lv C [0, 1, 2, 3, 4, 5, 6] rfl ?_
        exact ih r3 v5 s2 h
      · have h := h.2 c4
        refine g_iconst C (-1) d_SB_lastOfRising_34 (by decide) ?_
        exact g_iret r rfl d_SB_lastOfRising_35 (gBi_mk h)
def wp_Superblocks_lastOfRising (a1 : Int32) (a2 : Int32) (a3 : Int32) (a4 : Int32) (s : gS) (Q : Int32 → gS → Prop) : Prop := ∃ n6 : Nat, wl_Superblocks_lastOfRising_7 Q (fun v8 v9 s7 => Q v8 s7) a1 a2 a3 a4 n6 a4 a2 s
set_option maxHeartbeats 4000000 in
set_option maxRecDepth 100000 in
theorem w_Superblocks_lastOfRising (X : gX) (ad : Nat → Nat) (a1 : Int32) (a2 : Int32) (a3 : Int32) (a4 : Int32) (s : gS) (Q : Int32 → gS → Prop) (h : wp_Superblocks_lastOfRising a1 a2 a3 a4 s Q) (E : gE) (C : gC X E b_SB_lastOfRising 8 R_SB) (hRm : gRm E = rm_Superblocks_lastOfRising) (r : gR X E b_SB_lastOfRising (some .int) (gBi (wC ad X) Q)) : gW X E 0 0 (wC ad X s) [(0, .ref (ad 13)), (1, .int a1), (2, .int a2), (3, .int a3), (4, .int a4)] 0 [] := by
  have h : ∃ n6 : Nat, wl_Superblocks_lastOfRising_7 Q (fun v8 v9 s7 => Q v8 s7) a1 a2 a3 a4 n6 a4 a2 s := h
  refine g_iload C d_SB_lastOfRising_0 4 rfl ?_
  refine g_istore C (lv2 := [(0, .ref (ad 13)), (1, .int a1), (2, .int a2), (3, .int a3), (4, .int a4), (5, .int a4)]) d_SB_lastOfRising_2 (by decide) rfl ?_
  refine g_iload_n C d_SB_lastOfRising_4 rfl 2 rfl ?_
  refine g_istore C (lv2 := [(0, .ref (ad 13)), (1, .int a1), (2, .int a2), (3, .int a3), (4, .int a4), (5, .int a4), (6, .int a2)]) d_SB_lastOfRising_5 (by decide) rfl ?_
  obtain ⟨n6, h⟩ := h
  refine w_Superblocks_lastOfRising_7 X ad Q (_) a1 a2 a3 a4 E C hRm r ?_ n6 a4 a2 s h
  intro v8 v9 s7 h
  refine g_iload C d_SB_lastOfRising_46 5 rfl ?_
  exact g_iret r rfl d_SB_lastOfRising_48 (gBi_mk h)
theorem m_Superblocks_lastOfRising (X : gX) (ad : Nat → Nat) (a1 : Int32) (a2 : Int32) (a3 : Int32) (a4 : Int32) (s : gS) (Q : Int32 → gS → Prop) (h : wp_Superblocks_lastOfRising a1 a2 a3 a4 s Q) (l : Launch) : gM l X y_SB_lastOfRising b_SB_lastOfRising 8 (some .int) rm_Superblocks_lastOfRising [.ref (ad 13), .int a1, .int a2, .int a3, .int a4] (wC ad X s) (gBi (wC ad X) Q) :=
  gM_of (by decide +kernel) rfl (Nat.le_of_ble_eq_true rfl) rfl (fun E C hRm r => w_Superblocks_lastOfRising X ad a1 a2 a3 a4 s Q h E C hRm r)
def rm_Superblocks_isChainRight : Room := { frames := 2, cells := 0, slots := 0, locals := 49 }
def wl_Superblocks_isChainRight_28 (Q : Int32 → gS → Prop) (K : Int32 → Int32 → Int32 → gS → Prop) (x1 : Int32) (x2 : Int32) (x3 : Int32) (x4 : Int32) (x5 : Int32) : Nat → Int32 → Int32 → Int32 → gS → Prop
  | 0, _, _, _, _ => False
  | n + 1, x6, x7, x8, s => ((x5 ≤ x8 → K x6 x7 x8 s) ∧ (¬ x5 ≤ x8 → wp_Superblocks_isNewRightBlock x6 s (fun r7 s6 => ((¬ r7 = 0 → ∀ v9 : Int32, v9 = (if (x3 - (x8 * x4)) < x4 then (x3 - (x8 * x4)) else x4) → ((¬ x8 = 0 → wp_Superblocks_lastOfRising x6 0 v9 x7 s6 (fun r12 s11 => ((0 ≤ r12 → wp_Disk_get x6 1 s11 (fun r15 s14 => ∀ v16 : Int32, v16 = x8 + 1 → wl_Superblocks_isChainRight_28 Q K x1 x2 x3 x4 x5 n r15 r12 v16 s14)) ∧ (¬ 0 ≤ r12 → Q 0 s11)))) ∧ (x8 = 0 → wp_Superblocks_lastOfRising x6 x2 v9 x7 s6 (fun r18 s17 => ((0 ≤ r18 → wp_Disk_get x6 1 s17 (fun r21 s20 => ∀ v22 : Int32, v22 = x8 + 1 → wl_Superblocks_isChainRight_28 Q K x1 x2 x3 x4 x5 n r21 r18 v22 s20)) ∧ (¬ 0 ≤ r18 → Q 0 s17)))))) ∧ (r7 = 0 → Q 0 s6)))))
set_option maxHeartbeats 4000000 in
set_option maxRecDepth 100000 in
theorem w_Superblocks_isChainRight_28 (X : gX) (ad : Nat → Nat) (Q : Int32 → gS → Prop) (K : Int32 → Int32 → Int32 → gS → Prop) (x1 : Int32) (x2 : Int32) (x3 : Int32) (x4 : Int32) (x5 : Int32) (E : gE) (C : gC X E b_SB_isChainRight 10 R_SB) (hRm : gRm E = rm_Superblocks_isChainRight) (r : gR X E b_SB_isChainRight (some .boolean) (gBi (wC ad X) Q)) (hK : ∀ (x6 : Int32) (x7 : Int32) (x8 : Int32) (s : gS), K x6 x7 x8 s → gW X E 0 0 (wC ad X s) [(0, .ref (ad 13)), (1, .int x1), (2, .int x2), (3, .int x3), (4, .int x4), (5, .int x5), (6, .int x6), (7, .int x7), (8, .int x8)] 107 []) : ∀ (n : Nat) (x6 : Int32) (x7 : Int32) (x8 : Int32) (s : gS), wl_Superblocks_isChainRight_28 Q K x1 x2 x3 x4 x5 n x6 x7 x8 s → gW X E 0 0 (wC ad X s) [(0, .ref (ad 13)), (1, .int x1), (2, .int x2), (3, .int x3), (4, .int x4), (5, .int x5), (6, .int x6), (7, .int x7), (8, .int x8)] 28 [] := by
  intro n
  induction n with
  | zero => intro x6 x7 x8 s h; exact False.elim h
  | succ n ih =>
    intro x6 x7 x8 s h
    have h : ((x5 ≤ x8 → K x6 x7 x8 s) ∧ (¬ x5 ≤ x8 → wp_Superblocks_isNewRightBlock x6 s (fun r7 s6 => ((¬ r7 = 0 → ∀ v9 : Int32, v9 = (if (x3 - (x8 * x4)) < x4 then (x3 - (x8 * x4)) else x4) → ((¬ x8 = 0 → wp_Superblocks_lastOfRising x6 0 v9 x7 s6 (fun r12 s11 => ((0 ≤ r12 → wp_Disk_get x6 1 s11 (fun r15 s14 => ∀ v16 : Int32, v16 = x8 + 1 → wl_Superblocks_isChainRight_28 Q K x1 x2 x3 x4 x5 n r15 r12 v16 s14)) ∧ (¬ 0 ≤ r12 → Q 0 s11)))) ∧ (x8 = 0 → wp_Superblocks_lastOfRising x6 x2 v9 x7 s6 (fun r18 s17 => ((0 ≤ r18 → wp_Disk_get x6 1 s17 (fun r21 s20 => ∀ v22 : Int32, v22 = x8 + 1 → wl_Superblocks_isChainRight_28 Q K x1 x2 x3 x4 x5 n r21 r18 v22 s20)) ∧ (¬ 0 ≤ r18 → Q 0 s17)))))) ∧ (r7 = 0 → Q 0 s6))))) := h
    refine g_iload C d_SB_isChainRight_28 8 rfl ?_
    refine g_iload C d_SB_isChainRight_30 5 rfl ?_
    refine g_icmp_ge C 107 d_SB_isChainRight_32 (by decide) (fun c5 => ?_) (fun c5 => ?_)
    · have h := h.1 c5
      exact hK x6 x7 x8 s h
    · have h := h.2 c5
      refine g_aload_n C d_SB_isChainRight_35 rfl 0 rfl ?_
      refine g_iload C d_SB_isChainRight_36 6 rfl ?_
      refine g_callV C (rest := []) 13 (fun l => m_Superblocks_isNewRightBlock X ad x6 s _ h l) rfl rfl (gt 644 (by decide +kernel) rfl) cb_SB_isNewRightBlock ⟨rfl, rfl⟩ (by rw [hRm]; decide) ⟨Nat.zero_le _, Nat.zero_le _⟩ rfl rfl (Nat.le_of_ble_eq_true rfl) d_SB_isChainRight_38 (gki (fun r7 s6 h => ?_))
      refine g_if_ne C 46 d_SB_isChainRight_41 (by decide) (fun c8 => ?_) (fun c8 => ?_)
      · have h := h.1 c8
        refine g_iload C d_SB_isChainRight_46 4 rfl ?_
        refine g_iload_n C d_SB_isChainRight_48 rfl 3 rfl ?_
        refine g_iload C d_SB_isChainRight_49 8 rfl ?_
        refine g_iload C d_SB_isChainRight_51 4 rfl ?_
        refine g_imul C d_SB_isChainRight_53 ?_
        refine g_isub C d_SB_isChainRight_54 ?_
        refine g_mmin C (gt 650 (by decide +kernel) rfl) (gt 501 (by decide +kernel) rfl) (gt 102 (by decide +kernel) rfl) (gt 502 rfl rfl) (by rw [hRm]; decide) ⟨Nat.zero_le _, Nat.zero_le _⟩ d_SB_isChainRight_55 ?_
        refine g_topi (fun v9 e_v9 => ?_)
        have h := h v9 e_v9
        refine g_istore C (lv2 := [(0, .ref (ad 13)), (1, .int x1), (2, .int x2), (3, .int x3), (4, .int x4), (5, .int x5), (6, .int x6), (7, .int x7), (8, .int x8), (9, .int v9)]) d_SB_isChainRight_58 (by decide) rfl ?_
        refine g_aload_n C d_SB_isChainRight_60 rfl 0 rfl ?_
        refine g_iload C d_SB_isChainRight_61 6 rfl ?_
        refine g_iload C d_SB_isChainRight_63 8 rfl ?_
        refine g_if_ne C 72 d_SB_isChainRight_65 (by decide) (fun c10 => ?_) (fun c10 => ?_)
        · have h := h.1 c10
          refine g_iconst C 0 d_SB_isChainRight_72 (by decide) ?_
          refine g_iload C d_SB_isChainRight_73 9 rfl ?_
          refine g_iload C d_SB_isChainRight_75 7 rfl ?_
          refine g_callV C (rest := []) 13 (fun l => m_Superblocks_lastOfRising X ad x6 0 v9 x7 s6 _ h l) rfl rfl (gt 651 (by decide +kernel) rfl) cb_SB_lastOfRising ⟨rfl, rfl⟩ (by rw [hRm]; decide) ⟨Nat.zero_le _, Nat.zero_le _⟩ rfl rfl (Nat.le_of_ble_eq_true rfl) d_SB_isChainRight_77 (gki (fun r12 s11 h => ?_))
          refine g_istore C (lv2 := [(0, .ref (ad 13)), (1, .int x1), (2, .int x2), (3, .int x3), (4, .int x4), (5, .int x5), (6, .int x6), (7, .int r12), (8, .int x8), (9, .int v9)]) d_SB_isChainRight_80 (by decide) rfl ?_
          refine g_iload C d_SB_isChainRight_82 7 rfl ?_
          refine g_if_ge C 89 d_SB_isChainRight_84 (by decide) (fun c13 => ?_) (fun c13 => ?_)
          · have h := h.1 c13
            refine g_aload_n C d_SB_isChainRight_89 rfl 0 rfl ?_
            refine g_get C (v := .ref (ad 1)) 13 0 iw_SB rfl rfl (by decide) (gt 220 (by decide +kernel) rfl) rfl rfl d_SB_isChainRight_90 ?_
            refine g_iload C d_SB_isChainRight_93 6 rfl ?_
            refine g_iconst C 1 d_SB_isChainRight_95 (by decide) ?_
            refine g_callVN (host := "SpillQueue") C (rest := []) 1 (fun l => m_Disk_get X ad x6 1 s11 _ h l) rfl rfl (gn 630 (by decide +kernel) rfl) cb_DK_get ⟨rfl, rfl⟩ (by rw [hRm]; decide) ⟨Nat.zero_le _, Nat.zero_le _⟩ rfl rfl (Nat.le_of_ble_eq_true rfl) d_SB_isChainRight_96 (gki (fun r15 s14 h => ?_))
            refine g_istore C (lv2 := [(0, .ref (ad 13)), (1, .int x1), (2, .int x2), (3, .int x3), (4, .int x4), (5, .int x5), (6, .int r15), (7, .int r12), (8, .int x8), (9, .int v9)]) d_SB_isChainRight_99 (by decide) rfl ?_
            obtain ⟨v16, e_v16⟩ : ∃ y : Int32, y = x8 + 1 := ⟨_, rfl⟩
            have h := h v16 e_v16
            refine g_iinc C (v := v16) (lv2 := [(0, .ref (ad 13)), (1, .int x1), (2, .int x2), (3, .int x3), (4, .int x4), (5, .int x5), (6, .int r15), (7, .int r12), (8, .int v16), (9, .int v9)]) d_SB_isChainRight_101 8 rfl (by rw [e_v16]; rfl) (by decide) rfl ?_
            refine g_goto C 28 d_SB_isChainRight_104 (by decide) ?_
            refine g_lv C [0, 1, 2, 3, 4, 5, 6, 7, 8] rfl ?_
            exact ih r15 r12 v16 s14 h
          · have h := h.2 c13
            refine g_iconst C 0 d_SB_isChainRight_87 (by decide) ?_
            exact g_iret r rfl d_SB_isChainRight_88 (gBi_mk h)
        · have h := h.2 c10
          refine g_iload_n C d_SB_isChainRight_68 rfl 2 rfl ?_
          refine g_goto C 73 d_SB_isChainRight_69 (by decide) ?_
          refine g_iload C d_SB_isChainRight_73 9 rfl ?_
          refine g_iload C d_SB_isChainRight_75 7 rfl ?_
          refine g_callV C (rest := []) 13 (fun l => m_Superblocks_lastOfRising X ad x6 x2 v9 x7 s6 _ h l) rfl rfl (gt 651 (by decide +kernel) rfl) cb_SB_lastOfRising ⟨rfl, rfl⟩ (by rw [hRm]; decide) ⟨Nat.zero_le _, Nat.zero_le _⟩ rfl rfl (Nat.le_of_ble_eq_true rfl) d_SB_isChainRight_77 (gki (fun r18 s17 h => ?_))
          refine g_istore C (lv2 := [(0, .ref (ad 13)), (1, .int x1), (2, .int x2), (3, .int x3), (4, .int x4), (5, .int x5), (6, .int x6), (7, .int r18), (8, .int x8), (9, .int v9)]) d_SB_isChainRight_80 (by decide) rfl ?_
          refine g_iload C d_SB_isChainRight_82 7 rfl ?_
          refine g_if_ge C 89 d_SB_isChainRight_84 (by decide) (fun c19 => ?_) (fun c19 => ?_)
          · have h := h.1 c19
            refine g_aload_n C d_SB_isChainRight_89 rfl 0 rfl ?_
            refine g_get C (v := .ref (ad 1)) 13 0 iw_SB rfl rfl (by decide) (gt 220 (by decide +kernel) rfl) rfl rfl d_SB_isChainRight_90 ?_
            refine g_iload C d_SB_isChainRight_93 6 rfl ?_
            refine g_iconst C 1 d_SB_isChainRight_95 (by decide) ?_
            refine g_callVN (host := "SpillQueue") C (rest := []) 1 (fun l => m_Disk_get X ad x6 1 s17 _ h l) rfl rfl (gn 630 (by decide +kernel) rfl) cb_DK_get ⟨rfl, rfl⟩ (by rw [hRm]; decide) ⟨Nat.zero_le _, Nat.zero_le _⟩ rfl rfl (Nat.le_of_ble_eq_true rfl) d_SB_isChainRight_96 (gki (fun r21 s20 h => ?_))
            refine g_istore C (lv2 := [(0, .ref (ad 13)), (1, .int x1), (2, .int x2), (3, .int x3), (4, .int x4), (5, .int x5), (6, .int r21), (7, .int r18), (8, .int x8), (9, .int v9)]) d_SB_isChainRight_99 (by decide) rfl ?_
            obtain ⟨v22, e_v22⟩ : ∃ y : Int32, y = x8 + 1 := ⟨_, rfl⟩
            have h := h v22 e_v22
            refine g_iinc C (v := v22) (lv2 := [(0, .ref (ad 13)), (1, .int x1), (2, .int x2), (3, .int x3), (4, .int x4), (5, .int x5), (6, .int r21), (7, .int r18), (8, .int v22), (9, .int v9)]) d_SB_isChainRight_101 8 rfl (by rw [e_v22]; rfl) (by decide) rfl ?_
            refine g_goto C 28 d_SB_isChainRight_104 (by decide) ?_
            refine g_lv C [0, 1, 2, 3, 4, 5, 6, 7, 8] rfl ?_
            exact ih r21 r18 v22 s20 h
          · have h := h.2 c19
            refine g_iconst C 0 d_SB_isChainRight_87 (by decide) ?_
            exact g_iret r rfl d_SB_isChainRight_88 (gBi_mk h)
      · have h := h.2 c8
        refine g_iconst C 0 d_SB_isChainRight_44 (by decide) ?_
        exact g_iret r rfl d_SB_isChainRight_45 (gBi_mk h)
def wp_Superblocks_isChainRight (a1 : Int32) (a2 : Int32) (a3 : Int32) (s : gS) (Q : Int32 → gS → Prop) : Prop := wp_Disk_keysPerBlock s (fun r2 s1 => wp_Disk_blocksFor a3 s1 (fun r4 s3 => ∃ n23 : Nat, wl_Superblocks_isChainRight_28 Q (fun v25 v26 v27 s24 => ((¬ v25 = 0 → Q 0 s24) ∧ (v25 = 0 → Q 1 s24))) a1 a2 a3 r2 r4 n23 a1 0 0 s3))
set_option maxHeartbeats 4000000 in
set_option maxRecDepth 100000 in
theorem w_Superblocks_isChainRight (X : gX) (ad : Nat → Nat) (a1 : Int32) (a2 : Int32) (a3 : Int32) (s : gS) (Q : Int32 → gS → Prop) (h : wp_Superblocks_isChainRight a1 a2 a3 s Q) (E : gE) (C : gC X E b_SB_isChainRight 10 R_SB) (hRm : gRm E = rm_Superblocks_isChainRight) (r : gR X E b_SB_isChainRight (some .boolean) (gBi (wC ad X) Q)) : gW X E 0 0 (wC ad X s) [(0, .ref (ad 13)), (1, .int a1), (2, .int a2), (3, .int a3)] 0 [] := by
  have h : wp_Disk_keysPerBlock s (fun r2 s1 => wp_Disk_blocksFor a3 s1 (fun r4 s3 => ∃ n23 : Nat, wl_Superblocks_isChainRight_28 Q (fun v25 v26 v27 s24 => ((¬ v25 = 0 → Q 0 s24) ∧ (v25 = 0 → Q 1 s24))) a1 a2 a3 r2 r4 n23 a1 0 0 s3)) := h
  refine g_aload_n C d_SB_isChainRight_0 rfl 0 rfl ?_
  refine g_get C (v := .ref (ad 1)) 13 0 iw_SB rfl rfl (by decide) (gt 220 (by decide +kernel) rfl) rfl rfl d_SB_isChainRight_1 ?_
  refine g_callVN (host := "SpillQueue") C (rest := []) 1 (fun l => m_Disk_keysPerBlock X ad  s _ h l) rfl rfl (gn 638 (by decide +kernel) rfl) cb_DK_keysPerBlock ⟨rfl, rfl⟩ (by rw [hRm]; decide) ⟨Nat.zero_le _, Nat.zero_le _⟩ rfl rfl (Nat.le_of_ble_eq_true rfl) d_SB_isChainRight_4 (gki (fun r2 s1 h => ?_))
  refine g_istore C (lv2 := [(0, .ref (ad 13)), (1, .int a1), (2, .int a2), (3, .int a3), (4, .int r2)]) d_SB_isChainRight_7 (by decide) rfl ?_
  refine g_aload_n C d_SB_isChainRight_9 rfl 0 rfl ?_
  refine g_get C (v := .ref (ad 1)) 13 0 iw_SB rfl rfl (by decide) (gt 220 (by decide +kernel) rfl) rfl rfl d_SB_isChainRight_10 ?_
  refine g_iload_n C d_SB_isChainRight_13 rfl 3 rfl ?_
  refine g_callVN (host := "SpillQueue") C (rest := []) 1 (fun l => m_Disk_blocksFor X ad a3 s1 _ h l) rfl rfl (gn 643 (by decide +kernel) rfl) cb_DK_blocksFor ⟨rfl, rfl⟩ (by rw [hRm]; decide) ⟨Nat.zero_le _, Nat.zero_le _⟩ rfl rfl (Nat.le_of_ble_eq_true rfl) d_SB_isChainRight_14 (gki (fun r4 s3 h => ?_))
  refine g_istore C (lv2 := [(0, .ref (ad 13)), (1, .int a1), (2, .int a2), (3, .int a3), (4, .int r2), (5, .int r4)]) d_SB_isChainRight_17 (by decide) rfl ?_
  refine g_iload_n C d_SB_isChainRight_19 rfl 1 rfl ?_
  refine g_istore C (lv2 := [(0, .ref (ad 13)), (1, .int a1), (2, .int a2), (3, .int a3), (4, .int r2), (5, .int r4), (6, .int a1)]) d_SB_isChainRight_20 (by decide) rfl ?_
  refine g_iconst C 0 d_SB_isChainRight_22 (by decide) ?_
  refine g_istore C (lv2 := [(0, .ref (ad 13)), (1, .int a1), (2, .int a2), (3, .int a3), (4, .int r2), (5, .int r4), (6, .int a1), (7, .int 0)]) d_SB_isChainRight_23 (by decide) rfl ?_
  refine g_iconst C 0 d_SB_isChainRight_25 (by decide) ?_
  refine g_istore C (lv2 := [(0, .ref (ad 13)), (1, .int a1), (2, .int a2), (3, .int a3), (4, .int r2), (5, .int r4), (6, .int a1), (7, .int 0), (8, .int 0)]) d_SB_isChainRight_26 (by decide) rfl ?_
  obtain ⟨n23, h⟩ := h
  refine w_Superblocks_isChainRight_28 X ad Q (_) a1 a2 a3 r2 r4 E C hRm r ?_ n23 a1 0 0 s3 h
  intro v25 v26 v27 s24 h
  refine g_iload C d_SB_isChainRight_107 6 rfl ?_
  refine g_if_ne C 116 d_SB_isChainRight_109 (by decide) (fun c28 => ?_) (fun c28 => ?_)
  · have h := h.1 c28
    refine g_iconst C 0 d_SB_isChainRight_116 (by decide) ?_
    exact g_iret r rfl d_SB_isChainRight_117 (gBi_mk h)
  · have h := h.2 c28
    refine g_iconst C 1 d_SB_isChainRight_112 (by decide) ?_
    refine g_goto C 117 d_SB_isChainRight_113 (by decide) ?_
    exact g_iret r rfl d_SB_isChainRight_117 (gBi_mk h)
theorem m_Superblocks_isChainRight (X : gX) (ad : Nat → Nat) (a1 : Int32) (a2 : Int32) (a3 : Int32) (s : gS) (Q : Int32 → gS → Prop) (h : wp_Superblocks_isChainRight a1 a2 a3 s Q) (l : Launch) : gM l X y_SB_isChainRight b_SB_isChainRight 10 (some .boolean) rm_Superblocks_isChainRight [.ref (ad 13), .int a1, .int a2, .int a3] (wC ad X s) (gBi (wC ad X) Q) :=
  gM_of (by decide +kernel) rfl (Nat.le_of_ble_eq_true rfl) rfl (fun E C hRm r => w_Superblocks_isChainRight X ad a1 a2 a3 s Q h E C hRm r)
