def rm_BlockSet_has_18 : Room := { frames := 0, cells := 0, slots := 0, locals := 0 }
def wp_BlockSet_has_18 (a1 : Int32) (s : gS) (Q : Int32 → gS → Prop) : Prop := ((a1 < 0 → Q 0 s) ∧ (¬ a1 < 0 → ((200 ≤ a1 → Q 0 s) ∧ (¬ 200 ≤ a1 → vp_in a1 200 ∧ ((((s.2 11 a1.toNatClampNeg) = 0 → Q 0 s) ∧ (¬ (s.2 11 a1.toNatClampNeg) = 0 → Q 1 s)))))))
set_option maxHeartbeats 4000000 in
set_option maxRecDepth 100000 in
theorem w_BlockSet_has_18 (X : gX) (ad : Nat → Nat) (a1 : Int32) (s : gS) (Q : Int32 → gS → Prop) (h : wp_BlockSet_has_18 a1 s Q) (E : gE) (C : gC X E b_BS_has 2 R_BS) (hRm : gRm E = rm_BlockSet_has_18) (r : gR X E b_BS_has (some .boolean) (gBi (wC ad X) Q)) : gW X E 0 0 (wC ad X s) [(0, .ref (ad 18)), (1, .int a1)] 0 [] := by
  have h : ((a1 < 0 → Q 0 s) ∧ (¬ a1 < 0 → ((200 ≤ a1 → Q 0 s) ∧ (¬ 200 ≤ a1 → vp_in a1 200 ∧ ((((s.2 11 a1.toNatClampNeg) = 0 → Q 0 s) ∧ (¬ (s.2 11 a1.toNatClampNeg) = 0 → Q 1 s))))))) := h
  refine g_iload_n C d_BS_has_0 rfl 1 rfl ?_
  refine g_if_lt C 26 d_BS_has_1 (by decide) (fun c1 => ?_) (fun c1 => ?_)
  · have h := h.1 c1
    refine g_iconst C 0 d_BS_has_26 (by decide) ?_
    exact g_iret r rfl d_BS_has_27 (gBi_mk h)
  · have h := h.2 c1
    refine g_iload_n C d_BS_has_4 rfl 1 rfl ?_
    refine g_aload_n C d_BS_has_5 rfl 0 rfl ?_
    refine g_get C (v := .ref (ad 19)) 18 0 iw_BS rfl rfl (by decide) (gt 216 (by decide +kernel) rfl) rfl rfl d_BS_has_6 ?_
    refine g_alen C 19 1 200 rfl rfl rfl d_BS_has_9 ?_
    refine g_icmp_ge C 26 d_BS_has_10 (by decide) (fun c2 => ?_) (fun c2 => ?_)
    · have h := h.1 c2
      refine g_iconst C 0 d_BS_has_26 (by decide) ?_
      exact g_iret r rfl d_BS_has_27 (gBi_mk h)
    · have h := h.2 c2
      refine g_aload_n C d_BS_has_13 rfl 0 rfl ?_
      refine g_get C (v := .ref (ad 19)) 18 0 iw_BS rfl rfl (by decide) (gt 216 (by decide +kernel) rfl) rfl rfl d_BS_has_14 ?_
      refine g_iload_n C d_BS_has_17 rfl 1 rfl ?_
      obtain ⟨i3, h⟩ := h
      refine g_zald C 19 1 rfl rfl i3 d_BS_has_18 ?_
      refine g_if_eq C 26 d_BS_has_19 (by decide) (fun c4 => ?_) (fun c4 => ?_)
      · have h := h.1 c4
        refine g_iconst C 0 d_BS_has_26 (by decide) ?_
        exact g_iret r rfl d_BS_has_27 (gBi_mk h)
      · have h := h.2 c4
        refine g_iconst C 1 d_BS_has_22 (by decide) ?_
        refine g_goto C 27 d_BS_has_23 (by decide) ?_
        exact g_iret r rfl d_BS_has_27 (gBi_mk h)
theorem m_BlockSet_has_18 (X : gX) (ad : Nat → Nat) (a1 : Int32) (s : gS) (Q : Int32 → gS → Prop) (h : wp_BlockSet_has_18 a1 s Q) (l : Launch) : gM l X y_BS_has b_BS_has 2 (some .boolean) rm_BlockSet_has_18 [.ref (ad 18), .int a1] (wC ad X s) (gBi (wC ad X) Q) :=
  gM_of (by decide +kernel) rfl (Nat.le_of_ble_eq_true rfl) rfl (fun E C hRm r => w_BlockSet_has_18 X ad a1 s Q h E C hRm r)
def rm_SpillQueue_gatherFree : Room := { frames := 2, cells := 0, slots := 0, locals := 46 }
def wl_SpillQueue_gatherFree_26 (Q : Int32 → gS → Prop) (K : Int32 → Int32 → gS → Prop) : Nat → Int32 → Int32 → gS → Prop
  | 0, _, _, _ => False
  | n + 1, x1, x2, s => (((s.1 3) ≤ x2 → K x1 x2 s) ∧ (¬ (s.1 3) ≤ x2 → ((200 ≤ x1 → K x1 x2 s) ∧ (¬ 200 ≤ x1 → wp_BlockSet_has_18 x2 s (fun r8 s7 => ((¬ r8 = 0 → ∀ v10 : Int32, v10 = x2 + 1 → wl_SpillQueue_gatherFree_26 Q K n x1 v10 s7) ∧ (r8 = 0 → vp_in x1 200 ∧ (∀ v12 : Int32, v12 = x1 + 1 → ∀ v13 : Int32, v13 = x2 + 1 → wl_SpillQueue_gatherFree_26 Q K n v12 v13 (s7.1, ua s7.2 12 (upd (s7.2 12) x1.toNatClampNeg x2))))))))))
set_option maxHeartbeats 4000000 in
set_option maxRecDepth 100000 in
theorem w_SpillQueue_gatherFree_26 (X : gX) (ad : Nat → Nat) (Q : Int32 → gS → Prop) (K : Int32 → Int32 → gS → Prop) (E : gE) (C : gC X E b_SQ_gatherFree 3 R_SQ) (hRm : gRm E = rm_SpillQueue_gatherFree) (r : gR X E b_SQ_gatherFree (some .int) (gBi (wC ad X) Q)) (hK : ∀ (x1 : Int32) (x2 : Int32) (s : gS), K x1 x2 s → gW X E 0 0 (wC ad X s) [(0, .ref (ad 0)), (1, .int x1), (2, .int x2)] 73 []) : ∀ (n : Nat) (x1 : Int32) (x2 : Int32) (s : gS), wl_SpillQueue_gatherFree_26 Q K n x1 x2 s → gW X E 0 0 (wC ad X s) [(0, .ref (ad 0)), (1, .int x1), (2, .int x2)] 26 [] := by
  intro n
  induction n with
  | zero => intro x1 x2 s h; exact False.elim h
  | succ n ih =>
    intro x1 x2 s h
    have h : (((s.1 3) ≤ x2 → K x1 x2 s) ∧ (¬ (s.1 3) ≤ x2 → ((200 ≤ x1 → K x1 x2 s) ∧ (¬ 200 ≤ x1 → wp_BlockSet_has_18 x2 s (fun r8 s7 => ((¬ r8 = 0 → ∀ v10 : Int32, v10 = x2 + 1 → wl_SpillQueue_gatherFree_26 Q K n x1 v10 s7) ∧ (r8 = 0 → vp_in x1 200 ∧ (∀ v12 : Int32, v12 = x1 + 1 → ∀ v13 : Int32, v13 = x2 + 1 → wl_SpillQueue_gatherFree_26 Q K n v12 v13 (s7.1, ua s7.2 12 (upd (s7.2 12) x1.toNatClampNeg x2)))))))))) := h
    refine g_iload_n C d_SQ_gatherFree_26 rfl 2 rfl ?_
    refine g_aload_n C d_SQ_gatherFree_27 rfl 0 rfl ?_
    refine g_get C (v := .ref (ad 1)) 0 0 iw_SQ rfl rfl (by decide) (gt 229 (by decide +kernel) rfl) rfl rfl d_SQ_gatherFree_28 ?_
    refine g_getN (host := "SpillQueue") C (v := .int (s.1 3)) 1 2 iw_DK rfl rfl (by decide) (gn 122 (by decide +kernel) rfl) rfl rfl d_SQ_gatherFree_31 ?_
    refine g_icmp_ge C 73 d_SQ_gatherFree_34 (by decide) (fun c5 => ?_) (fun c5 => ?_)
    · have h := h.1 c5
      exact hK x1 x2 s h
    · have h := h.2 c5
      refine g_iload_n C d_SQ_gatherFree_37 rfl 1 rfl ?_
      refine g_aload_n C d_SQ_gatherFree_38 rfl 0 rfl ?_
      refine g_get C (v := .ref (ad 20)) 0 6 iw_SQ rfl rfl (by decide) (gt 235 (by decide +kernel) rfl) rfl rfl d_SQ_gatherFree_39 ?_
      refine g_alen C 20 0 200 rfl rfl rfl d_SQ_gatherFree_42 ?_
      refine g_icmp_ge C 73 d_SQ_gatherFree_43 (by decide) (fun c6 => ?_) (fun c6 => ?_)
      · have h := h.1 c6
        exact hK x1 x2 s h
      · have h := h.2 c6
        refine g_aload_n C d_SQ_gatherFree_46 rfl 0 rfl ?_
        refine g_get C (v := .ref (ad 18)) 0 5 iw_SQ rfl rfl (by decide) (gt 234 (by decide +kernel) rfl) rfl rfl d_SQ_gatherFree_47 ?_
        refine g_iload_n C d_SQ_gatherFree_50 rfl 2 rfl ?_
        refine g_callVN (host := "SpillQueue") C (rest := []) 18 (fun l => m_BlockSet_has_18 X ad x2 s _ h l) rfl rfl (gn 496 (by decide +kernel) rfl) cb_BS_has ⟨rfl, rfl⟩ (by rw [hRm]; decide) ⟨Nat.zero_le _, Nat.zero_le _⟩ rfl rfl (Nat.le_of_ble_eq_true rfl) d_SQ_gatherFree_51 (gki (fun r8 s7 h => ?_))
        refine g_if_ne C 67 d_SQ_gatherFree_54 (by decide) (fun c9 => ?_) (fun c9 => ?_)
        · have h := h.1 c9
          obtain ⟨v10, e_v10⟩ : ∃ y : Int32, y = x2 + 1 := ⟨_, rfl⟩
          have h := h v10 e_v10
          refine g_iinc C (v := v10) (lv2 := [(0, .ref (ad 0)), (1, .int x1), (2, .int v10)]) d_SQ_gatherFree_67 2 rfl (by rw [e_v10]; rfl) (by decide) rfl ?_
          refine g_goto C 26 d_SQ_gatherFree_70 (by decide) ?_
          exact ih x1 v10 s7 h
        · have h := h.2 c9
          refine g_aload_n C d_SQ_gatherFree_57 rfl 0 rfl ?_
          refine g_get C (v := .ref (ad 20)) 0 6 iw_SQ rfl rfl (by decide) (gt 235 (by decide +kernel) rfl) rfl rfl d_SQ_gatherFree_58 ?_
          refine g_iload_n C d_SQ_gatherFree_61 rfl 1 rfl ?_
          refine g_iload_n C d_SQ_gatherFree_62 rfl 2 rfl ?_
          obtain ⟨i11, h⟩ := h
          refine g_iast C 20 0 (ws2 := wC ad X (s7.1, ua s7.2 12 (upd (s7.2 12) x1.toNatClampNeg x2))) rfl rfl i11 rfl d_SQ_gatherFree_63 ?_
          obtain ⟨v12, e_v12⟩ : ∃ y : Int32, y = x1 + 1 := ⟨_, rfl⟩
          have h := h v12 e_v12
          refine g_iinc C (v := v12) (lv2 := [(0, .ref (ad 0)), (1, .int v12), (2, .int x2)]) d_SQ_gatherFree_64 1 rfl (by rw [e_v12]; rfl) (by decide) rfl ?_
          obtain ⟨v13, e_v13⟩ : ∃ y : Int32, y = x2 + 1 := ⟨_, rfl⟩
          have h := h v13 e_v13
          refine g_iinc C (v := v13) (lv2 := [(0, .ref (ad 0)), (1, .int v12), (2, .int v13)]) d_SQ_gatherFree_67 2 rfl (by rw [e_v13]; rfl) (by decide) rfl ?_
          refine g_goto C 26 d_SQ_gatherFree_70 (by decide) ?_
          exact ih v12 v13 (s7.1, ua s7.2 12 (upd (s7.2 12) x1.toNatClampNeg x2)) h
def wp_SpillQueue_gatherFree (s : gS) (Q : Int32 → gS → Prop) : Prop := wp_BlockSet_copyOf_18_16 s (fun s1 => wp_Runs_markBlocks_18 s1 (fun s3 => ∃ n14 : Nat, wl_SpillQueue_gatherFree_26 Q (fun v16 v17 s15 => Q v16 s15)  n14 0 2 s3))
set_option maxHeartbeats 4000000 in
set_option maxRecDepth 100000 in
theorem w_SpillQueue_gatherFree (X : gX) (ad : Nat → Nat) (s : gS) (Q : Int32 → gS → Prop) (h : wp_SpillQueue_gatherFree  s Q) (E : gE) (C : gC X E b_SQ_gatherFree 3 R_SQ) (hRm : gRm E = rm_SpillQueue_gatherFree) (r : gR X E b_SQ_gatherFree (some .int) (gBi (wC ad X) Q)) : gW X E 0 0 (wC ad X s) [(0, .ref (ad 0))] 0 [] := by
  have h : wp_BlockSet_copyOf_18_16 s (fun s1 => wp_Runs_markBlocks_18 s1 (fun s3 => ∃ n14 : Nat, wl_SpillQueue_gatherFree_26 Q (fun v16 v17 s15 => Q v16 s15)  n14 0 2 s3)) := h
  refine g_aload_n C d_SQ_gatherFree_0 rfl 0 rfl ?_
  refine g_get C (v := .ref (ad 18)) 0 5 iw_SQ rfl rfl (by decide) (gt 234 (by decide +kernel) rfl) rfl rfl d_SQ_gatherFree_1 ?_
  refine g_aload_n C d_SQ_gatherFree_4 rfl 0 rfl ?_
  refine g_get C (v := .ref (ad 16)) 0 4 iw_SQ rfl rfl (by decide) (gt 233 (by decide +kernel) rfl) rfl rfl d_SQ_gatherFree_5 ?_
  refine g_callVN (host := "SpillQueue") C (rest := []) 18 (fun l => m_BlockSet_copyOf_18_16 X ad  s _ h l) rfl rfl (gn 488 (by decide +kernel) rfl) cb_BS_copyOf ⟨rfl, rfl⟩ (by rw [hRm]; decide) ⟨Nat.zero_le _, Nat.zero_le _⟩ rfl rfl (Nat.le_of_ble_eq_true rfl) d_SQ_gatherFree_8 (gkv (fun s1 h => ?_))
  refine g_aload_n C d_SQ_gatherFree_11 rfl 0 rfl ?_
  refine g_get C (v := .ref (ad 6)) 0 2 iw_SQ rfl rfl (by decide) (gt 231 (by decide +kernel) rfl) rfl rfl d_SQ_gatherFree_12 ?_
  refine g_aload_n C d_SQ_gatherFree_15 rfl 0 rfl ?_
  refine g_get C (v := .ref (ad 18)) 0 5 iw_SQ rfl rfl (by decide) (gt 234 (by decide +kernel) rfl) rfl rfl d_SQ_gatherFree_16 ?_
  refine g_callVN (host := "SpillQueue") C (rest := []) 6 (fun l => m_Runs_markBlocks_18 X ad  s1 _ h l) rfl rfl (gn 401 (by decide +kernel) rfl) cb_RU_markBlocks ⟨rfl, rfl⟩ (by rw [hRm]; decide) ⟨Nat.zero_le _, Nat.zero_le _⟩ rfl rfl (Nat.le_of_ble_eq_true rfl) d_SQ_gatherFree_19 (gkv (fun s3 h => ?_))
  refine g_iconst C 0 d_SQ_gatherFree_22 (by decide) ?_
  refine g_istore_n C (lv2 := [(0, .ref (ad 0)), (1, .int 0)]) d_SQ_gatherFree_23 rfl (by decide) rfl ?_
  refine g_iconst C 2 d_SQ_gatherFree_24 (by decide) ?_
  refine g_istore_n C (lv2 := [(0, .ref (ad 0)), (1, .int 0), (2, .int 2)]) d_SQ_gatherFree_25 rfl (by decide) rfl ?_
  obtain ⟨n14, h⟩ := h
  refine w_SpillQueue_gatherFree_26 X ad Q (_)  E C hRm r ?_ n14 0 2 s3 h
  intro v16 v17 s15 h
  refine g_iload_n C d_SQ_gatherFree_73 rfl 1 rfl ?_
  exact g_iret r rfl d_SQ_gatherFree_74 (gBi_mk h)
theorem m_SpillQueue_gatherFree (X : gX) (ad : Nat → Nat) (s : gS) (Q : Int32 → gS → Prop) (h : wp_SpillQueue_gatherFree  s Q) (l : Launch) : gM l X y_SQ_gatherFree b_SQ_gatherFree 3 (some .int) rm_SpillQueue_gatherFree [.ref (ad 0)] (wC ad X s) (gBi (wC ad X) Q) :=
  gM_of (by decide +kernel) rfl (Nat.le_of_ble_eq_true rfl) rfl (fun E C hRm r => w_SpillQueue_gatherFree X ad  s Q h E C hRm r)
def rm_Memory_least : Room := { frames := 0, cells := 0, slots := 0, locals := 0 }
def wp_Memory_least (s : gS) (Q : Int32 → gS → Prop) : Prop := (((s.1 7) ≤ 0 → Q (-1) s) ∧ (¬ (s.1 7) ≤ 0 → vp_in ((s.1 7) - 1) 100 ∧ (Q (s.2 2 ((s.1 7) - 1).toNatClampNeg) s)))
set_option maxHeartbeats 4000000 in
set_option maxRecDepth 100000 in
theorem w_Memory_least (X : gX) (ad : Nat → Nat) (s : gS) (Q : Int32 → gS → Prop) (h : wp_Memory_least  s Q) (E : gE) (C : gC X E b_ME_least 1 R_ME) (hRm : gRm E = rm_Memory_least) (r : gR X E b_ME_least (some .int) (gBi (wC ad X) Q)) : gW X E 0 0 (wC ad X s) [(0, .ref (ad 4))] 0 [] := by
  have h : (((s.1 7) ≤ 0 → Q (-1) s) ∧ (¬ (s.1 7) ≤ 0 → vp_in ((s.1 7) - 1) 100 ∧ (Q (s.2 2 ((s.1 7) - 1).toNatClampNeg) s))) := h
  refine g_aload_n C d_ME_least_0 rfl 0 rfl ?_
  refine g_get C (v := .int (s.1 7)) 4 1 iw_ME rfl rfl (by decide) (gt 152 (by decide +kernel) rfl) rfl rfl d_ME_least_1 ?_
  refine g_if_le C 21 d_ME_least_4 (by decide) (fun c1 => ?_) (fun c1 => ?_)
  · have h := h.1 c1
    refine g_iconst C (-1) d_ME_least_21 (by decide) ?_
    exact g_iret r rfl d_ME_least_22 (gBi_mk h)
  · have h := h.2 c1
    refine g_aload_n C d_ME_least_7 rfl 0 rfl ?_
    refine g_get C (v := .ref (ad 5)) 4 0 iw_ME rfl rfl (by decide) (gt 151 (by decide +kernel) rfl) rfl rfl d_ME_least_8 ?_
    refine g_aload_n C d_ME_least_11 rfl 0 rfl ?_
    refine g_get C (v := .int (s.1 7)) 4 1 iw_ME rfl rfl (by decide) (gt 152 (by decide +kernel) rfl) rfl rfl d_ME_least_12 ?_
    refine g_iconst C 1 d_ME_least_15 (by decide) ?_
    refine g_isub C d_ME_least_16 ?_
    obtain ⟨i2, h⟩ := h
    refine g_iald C 5 0 rfl rfl i2 d_ME_least_17 ?_
    refine g_goto C 22 d_ME_least_18 (by decide) ?_
    exact g_iret r rfl d_ME_least_22 (gBi_mk h)
theorem m_Memory_least (X : gX) (ad : Nat → Nat) (s : gS) (Q : Int32 → gS → Prop) (h : wp_Memory_least  s Q) (l : Launch) : gM l X y_ME_least b_ME_least 1 (some .int) rm_Memory_least [.ref (ad 4)] (wC ad X s) (gBi (wC ad X) Q) :=
  gM_of (by decide +kernel) rfl (Nat.le_of_ble_eq_true rfl) rfl (fun E C hRm r => w_Memory_least X ad  s Q h E C hRm r)
def rm_Memory_takeLeast : Room := { frames := 1, cells := 0, slots := 0, locals := 20 }
def wp_Memory_takeLeast (s : gS) (Q : Int32 → gS → Prop) : Prop := wp_Memory_least s (fun r2 s1 => (((s1.1 7) ≤ 0 → Q r2 s1) ∧ (¬ (s1.1 7) ≤ 0 → ∀ v4 : Int32, v4 = (s1.1 7) - 1 → Q r2 (up s1.1 7 (v4), s1.2))))
set_option maxHeartbeats 4000000 in
set_option maxRecDepth 100000 in
theorem w_Memory_takeLeast (X : gX) (ad : Nat → Nat) (s : gS) (Q : Int32 → gS → Prop) (h : wp_Memory_takeLeast  s Q) (E : gE) (C : gC X E b_ME_takeLeast 2 R_ME) (hRm : gRm E = rm_Memory_takeLeast) (r : gR X E b_ME_takeLeast (some .int) (gBi (wC ad X) Q)) : gW X E 0 0 (wC ad X s) [(0, .ref (ad 4))] 0 [] := by
  have h : wp_Memory_least s (fun r2 s1 => (((s1.1 7) ≤ 0 → Q r2 s1) ∧ (¬ (s1.1 7) ≤ 0 → ∀ v4 : Int32, v4 = (s1.1 7) - 1 → Q r2 (up s1.1 7 (v4), s1.2)))) := h
  refine g_aload_n C d_ME_takeLeast_0 rfl 0 rfl ?_
  refine g_callV C (rest := []) 4 (fun l => m_Memory_least X ad  s _ h l) rfl rfl (gt 509 (by decide +kernel) rfl) cb_ME_least ⟨rfl, rfl⟩ (by rw [hRm]; decide) ⟨Nat.zero_le _, Nat.zero_le _⟩ rfl rfl (Nat.le_of_ble_eq_true rfl) d_ME_takeLeast_1 (gki (fun r2 s1 h => ?_))
  refine g_istore_n C (lv2 := [(0, .ref (ad 4)), (1, .int r2)]) d_ME_takeLeast_4 rfl (by decide) rfl ?_
  refine g_aload_n C d_ME_takeLeast_5 rfl 0 rfl ?_
  refine g_get C (v := .int (s1.1 7)) 4 1 iw_ME rfl rfl (by decide) (gt 152 (by decide +kernel) rfl) rfl rfl d_ME_takeLeast_6 ?_
  refine g_if_le C 22 d_ME_takeLeast_9 (by decide) (fun c3 => ?_) (fun c3 => ?_)
  · have h := h.1 c3
    refine g_iload_n C d_ME_takeLeast_22 rfl 1 rfl ?_
    exact g_iret r rfl d_ME_takeLeast_23 (gBi_mk h)
  · have h := h.2 c3
    refine g_aload_n C d_ME_takeLeast_12 rfl 0 rfl ?_
    refine g_dup C rfl d_ME_takeLeast_13 ?_
    refine g_get C (v := .int (s1.1 7)) 4 1 iw_ME rfl rfl (by decide) (gt 152 (by decide +kernel) rfl) rfl rfl d_ME_takeLeast_14 ?_
    refine g_iconst C 1 d_ME_takeLeast_17 (by decide) ?_
    refine g_isub C d_ME_takeLeast_18 ?_
    refine g_topi (fun v4 e_v4 => ?_)
    have h := h v4 e_v4
    refine g_put C (ws2 := wC ad X (up s1.1 7 (v4), s1.2)) 4 1 iw_ME ty_ME tyok_ME nm_ME rfl rfl (by decide) (gt 152 (by decide +kernel) rfl) rfl rfl rfl rfl (Nat.le_of_ble_eq_true rfl) rfl d_ME_takeLeast_19 ?_
    refine g_iload_n C d_ME_takeLeast_22 rfl 1 rfl ?_
    exact g_iret r rfl d_ME_takeLeast_23 (gBi_mk h)
theorem m_Memory_takeLeast (X : gX) (ad : Nat → Nat) (s : gS) (Q : Int32 → gS → Prop) (h : wp_Memory_takeLeast  s Q) (l : Launch) : gM l X y_ME_takeLeast b_ME_takeLeast 2 (some .int) rm_Memory_takeLeast [.ref (ad 4)] (wC ad X s) (gBi (wC ad X) Q) :=
  gM_of (by decide +kernel) rfl (Nat.le_of_ble_eq_true rfl) rfl (fun E C hRm r => w_Memory_takeLeast X ad  s Q h E C hRm r)
def rm_Runs_dropEmpty : Room := { frames := 0, cells := 0, slots := 0, locals := 0 }
def wl_Runs_dropEmpty_4 (Q : gS → Prop) (K : Int32 → Int32 → gS → Prop) : Nat → Int32 → Int32 → gS → Prop
  | 0, _, _, _ => False
  | n + 1, x1, x2, s => (((s.1 9) ≤ x2 → K x1 x2 s) ∧ (¬ (s.1 9) ≤ x2 → vp_in x2 9 ∧ ((((s.2 5 x2.toNatClampNeg) ≤ 0 → ∀ v4 : Int32, v4 = x2 + 1 → wl_Runs_dropEmpty_4 Q K n x1 v4 s) ∧ (¬ (s.2 5 x2.toNatClampNeg) ≤ 0 → vp_in x2 9 ∧ (∀ v6 : Int32, v6 = s.2 3 x2.toNatClampNeg → vp_in x1 9 ∧ (vp_in x2 9 ∧ (∀ v9 : Int32, v9 = s.2 4 x2.toNatClampNeg → vp_in x1 9 ∧ (vp_in x2 9 ∧ (∀ v12 : Int32, v12 = s.2 5 x2.toNatClampNeg → vp_in x1 9 ∧ (vp_in x2 9 ∧ (∀ v15 : Int32, v15 = s.2 6 x2.toNatClampNeg → vp_in x1 9 ∧ (vp_in x2 9 ∧ (∀ v18 : Int32, v18 = s.2 7 x2.toNatClampNeg → vp_in x1 9 ∧ (∀ v20 : Int32, v20 = x1 + 1 → ∀ v21 : Int32, v21 = x2 + 1 → wl_Runs_dropEmpty_4 Q K n v20 v21 (s.1, ua (ua (ua (ua (ua s.2 3 (upd (s.2 3) x1.toNatClampNeg v6)) 4 (upd (s.2 4) x1.toNatClampNeg v9)) 5 (upd (s.2 5) x1.toNatClampNeg v12)) 6 (upd (s.2 6) x1.toNatClampNeg v15)) 7 (upd (s.2 7) x1.toNatClampNeg v18)))))))))))))))))
set_option maxHeartbeats 4000000 in
set_option maxRecDepth 100000 in
theorem w_Runs_dropEmpty_4 (X : gX) (ad : Nat → Nat) (Q : gS → Prop) (K : Int32 → Int32 → gS → Prop) (E : gE) (C : gC X E b_RU_dropEmpty 3 R_RU) (hRm : gRm E = rm_Runs_dropEmpty) (r : gR X E b_RU_dropEmpty none (gBv (wC ad X) Q)) (hK : ∀ (x1 : Int32) (x2 : Int32) (s : gS), K x1 x2 s → gW X E 0 0 (wC ad X s) [(0, .ref (ad 6)), (1, .int x1), (2, .int x2)] 90 []) : ∀ (n : Nat) (x1 : Int32) (x2 : Int32) (s : gS), wl_Runs_dropEmpty_4 Q K n x1 x2 s → gW X E 0 0 (wC ad X s) [(0, .ref (ad 6)), (1, .int x1), (2, .int x2)] 4 [] := by
  intro n
  induction n with
  | zero => intro x1 x2 s h; exact False.elim h
  | succ n ih =>
    intro x1 x2 s h
    have h : (((s.1 9) ≤ x2 → K x1 x2 s) ∧ (¬ (s.1 9) ≤ x2 → vp_in x2 9 ∧ ((((s.2 5 x2.toNatClampNeg) ≤ 0 → ∀ v4 : Int32, v4 = x2 + 1 → wl_Runs_dropEmpty_4 Q K n x1 v4 s) ∧ (¬ (s.2 5 x2.toNatClampNeg) ≤ 0 → vp_in x2 9 ∧ (∀ v6 : Int32, v6 = s.2 3 x2.toNatClampNeg → vp_in x1 9 ∧ (vp_in x2 9 ∧ (∀ v9 : Int32, v9 = s.2 4 x2.toNatClampNeg → vp_in x1 9 ∧ (vp_in x2 9 ∧ (∀ v12 : Int32, v12 = s.2 5 x2.toNatClampNeg → vp_in x1 9 ∧ (vp_in x2 9 ∧ (∀ v15 : Int32, v15 = s.2 6 x2.toNatClampNeg → vp_in x1 9 ∧ (vp_in x2 9 ∧ (∀ v18 : Int32, v18 = s.2 7 x2.toNatClampNeg → vp_in x1 9 ∧ (∀ v20 : Int32, v20 = x1 + 1 → ∀ v21 : Int32, v21 = x2 + 1 → wl_Runs_dropEmpty_4 Q K n v20 v21 (s.1, ua (ua (ua (ua (ua s.2 3 (upd (s.2 3) x1.toNatClampNeg v6)) 4 (upd (s.2 4) x1.toNatClampNeg v9)) 5 (upd (s.2 5) x1.toNatClampNeg v12)) 6 (upd (s.2 6) x1.toNatClampNeg v15)) 7 (upd (s.2 7) x1.toNatClampNeg v18))))))))))))))))) := h
    refine g_iload_n C d_RU_dropEmpty_4 rfl 2 rfl ?_
    refine g_aload_n C d_RU_dropEmpty_5 rfl 0 rfl ?_
    refine g_get C (v := .int (s.1 9)) 6 7 iw_RU rfl rfl (by decide) (gt 183 (by decide +kernel) rfl) rfl rfl d_RU_dropEmpty_6 ?_
    refine g_icmp_ge C 90 d_RU_dropEmpty_9 (by decide) (fun c1 => ?_) (fun c1 => ?_)
    · have h := h.1 c1
      exact hK x1 x2 s h
    · have h := h.2 c1
      refine g_aload_n C d_RU_dropEmpty_12 rfl 0 rfl ?_
      refine g_get C (v := .ref (ad 9)) 6 3 iw_RU rfl rfl (by decide) (gt 175 (by decide +kernel) rfl) rfl rfl d_RU_dropEmpty_13 ?_
      refine g_iload_n C d_RU_dropEmpty_16 rfl 2 rfl ?_
      obtain ⟨i2, h⟩ := h
      refine g_iald C 9 0 rfl rfl i2 d_RU_dropEmpty_17 ?_
      refine g_if_le C 84 d_RU_dropEmpty_18 (by decide) (fun c3 => ?_) (fun c3 => ?_)
      · have h := h.1 c3
        obtain ⟨v4, e_v4⟩ : ∃ y : Int32, y = x2 + 1 := ⟨_, rfl⟩
        have h := h v4 e_v4
        refine g_iinc C (v := v4) (lv2 := [(0, .ref (ad 6)), (1, .int x1), (2, .int v4)]) d_RU_dropEmpty_84 2 rfl (by rw [e_v4]; rfl) (by decide) rfl ?_
        refine g_goto C 4 d_RU_dropEmpty_87 (by decide) ?_
        exact ih x1 v4 s h
      · have h := h.2 c3
        refine g_aload_n C d_RU_dropEmpty_21 rfl 0 rfl ?_
        refine g_get C (v := .ref (ad 7)) 6 1 iw_RU rfl rfl (by decide) (gt 169 (by decide +kernel) rfl) rfl rfl d_RU_dropEmpty_22 ?_
        refine g_iload_n C d_RU_dropEmpty_25 rfl 1 rfl ?_
        refine g_aload_n C d_RU_dropEmpty_26 rfl 0 rfl ?_
        refine g_get C (v := .ref (ad 7)) 6 1 iw_RU rfl rfl (by decide) (gt 169 (by decide +kernel) rfl) rfl rfl d_RU_dropEmpty_27 ?_
        refine g_iload_n C d_RU_dropEmpty_30 rfl 2 rfl ?_
        obtain ⟨i5, h⟩ := h
        refine g_iald C 7 0 rfl rfl i5 d_RU_dropEmpty_31 ?_
        refine g_topi (fun v6 e_v6 => ?_)
        have h := h v6 e_v6
        obtain ⟨i7, h⟩ := h
        refine g_iast C 7 0 (ws2 := wC ad X (s.1, ua s.2 3 (upd (s.2 3) x1.toNatClampNeg v6))) rfl rfl i7 rfl d_RU_dropEmpty_32 ?_
        refine g_aload_n C d_RU_dropEmpty_33 rfl 0 rfl ?_
        refine g_get C (v := .ref (ad 8)) 6 2 iw_RU rfl rfl (by decide) (gt 172 (by decide +kernel) rfl) rfl rfl d_RU_dropEmpty_34 ?_
        refine g_iload_n C d_RU_dropEmpty_37 rfl 1 rfl ?_
        refine g_aload_n C d_RU_dropEmpty_38 rfl 0 rfl ?_
        refine g_get C (v := .ref (ad 8)) 6 2 iw_RU rfl rfl (by decide) (gt 172 (by decide +kernel) rfl) rfl rfl d_RU_dropEmpty_39 ?_
        refine g_iload_n C d_RU_dropEmpty_42 rfl 2 rfl ?_
        obtain ⟨i8, h⟩ := h
        refine g_iald C 8 0 rfl rfl i8 d_RU_dropEmpty_43 ?_
        refine g_topi (fun v9 e_v9 => ?_)
        have h := h v9 e_v9
        obtain ⟨i10, h⟩ := h
        refine g_iast C 8 0 (ws2 := wC ad X (s.1, ua (ua s.2 3 (upd (s.2 3) x1.toNatClampNeg v6)) 4 (upd (s.2 4) x1.toNatClampNeg v9))) rfl rfl i10 rfl d_RU_dropEmpty_44 ?_
        refine g_aload_n C d_RU_dropEmpty_45 rfl 0 rfl ?_
        refine g_get C (v := .ref (ad 9)) 6 3 iw_RU rfl rfl (by decide) (gt 175 (by decide +kernel) rfl) rfl rfl d_RU_dropEmpty_46 ?_
        refine g_iload_n C d_RU_dropEmpty_49 rfl 1 rfl ?_
        refine g_aload_n C d_RU_dropEmpty_50 rfl 0 rfl ?_
        refine g_get C (v := .ref (ad 9)) 6 3 iw_RU rfl rfl (by decide) (gt 175 (by decide +kernel) rfl) rfl rfl d_RU_dropEmpty_51 ?_
        refine g_iload_n C d_RU_dropEmpty_54 rfl 2 rfl ?_
        obtain ⟨i11, h⟩ := h
        refine g_iald C 9 0 rfl rfl i11 d_RU_dropEmpty_55 ?_
        refine g_topi (fun v12 e_v12 => ?_)
        have h := h v12 e_v12
        obtain ⟨i13, h⟩ := h
        refine g_iast C 9 0 (ws2 := wC ad X (s.1, ua (ua (ua s.2 3 (upd (s.2 3) x1.toNatClampNeg v6)) 4 (upd (s.2 4) x1.toNatClampNeg v9)) 5 (upd (s.2 5) x1.toNatClampNeg v12))) rfl rfl i13 rfl d_RU_dropEmpty_56 ?_
        refine g_aload_n C d_RU_dropEmpty_57 rfl 0 rfl ?_
        refine g_get C (v := .ref (ad 10)) 6 4 iw_RU rfl rfl (by decide) (gt 178 (by decide +kernel) rfl) rfl rfl d_RU_dropEmpty_58 ?_
        refine g_iload_n C d_RU_dropEmpty_61 rfl 1 rfl ?_
        refine g_aload_n C d_RU_dropEmpty_62 rfl 0 rfl ?_
        refine g_get C (v := .ref (ad 10)) 6 4 iw_RU rfl rfl (by decide) (gt 178 (by decide +kernel) rfl) rfl rfl d_RU_dropEmpty_63 ?_
        refine g_iload_n C d_RU_dropEmpty_66 rfl 2 rfl ?_
        obtain ⟨i14, h⟩ := h
        refine g_iald C 10 0 rfl rfl i14 d_RU_dropEmpty_67 ?_
        refine g_topi (fun v15 e_v15 => ?_)
        have h := h v15 e_v15
        obtain ⟨i16, h⟩ := h
        refine g_iast C 10 0 (ws2 := wC ad X (s.1, ua (ua (ua (ua s.2 3 (upd (s.2 3) x1.toNatClampNeg v6)) 4 (upd (s.2 4) x1.toNatClampNeg v9)) 5 (upd (s.2 5) x1.toNatClampNeg v12)) 6 (upd (s.2 6) x1.toNatClampNeg v15))) rfl rfl i16 rfl d_RU_dropEmpty_68 ?_
        refine g_aload_n C d_RU_dropEmpty_69 rfl 0 rfl ?_
        refine g_get C (v := .ref (ad 11)) 6 5 iw_RU rfl rfl (by decide) (gt 181 (by decide +kernel) rfl) rfl rfl d_RU_dropEmpty_70 ?_
        refine g_iload_n C d_RU_dropEmpty_73 rfl 1 rfl ?_
        refine g_aload_n C d_RU_dropEmpty_74 rfl 0 rfl ?_
        refine g_get C (v := .ref (ad 11)) 6 5 iw_RU rfl rfl (by decide) (gt 181 (by decide +kernel) rfl) rfl rfl d_RU_dropEmpty_75 ?_
        refine g_iload_n C d_RU_dropEmpty_78 rfl 2 rfl ?_
        obtain ⟨i17, h⟩ := h
        refine g_iald C 11 0 rfl rfl i17 d_RU_dropEmpty_79 ?_
        refine g_topi (fun v18 e_v18 => ?_)
        have h := h v18 e_v18
        obtain ⟨i19, h⟩ := h
        refine g_iast C 11 0 (ws2 := wC ad X (s.1, ua (ua (ua (ua (ua s.2 3 (upd (s.2 3) x1.toNatClampNeg v6)) 4 (upd (s.2 4) x1.toNatClampNeg v9)) 5 (upd (s.2 5) x1.toNatClampNeg v12)) 6 (upd (s.2 6) x1.toNatClampNeg v15)) 7 (upd (s.2 7) x1.toNatClampNeg v18))) rfl rfl i19 rfl d_RU_dropEmpty_80 ?_
        obtain ⟨v20, e_v20⟩ : ∃ y : Int32, y = x1 + 1 := ⟨_, rfl⟩
        have h := h v20 e_v20
        refine g_iinc C (v := v20) (lv2 := [(0, .ref (ad 6)), (1, .int v20), (2, .int x2)]) d_RU_dropEmpty_81 1 rfl (by rw [e_v20]; rfl) (by decide) rfl ?_
        obtain ⟨v21, e_v21⟩ : ∃ y : Int32, y = x2 + 1 := ⟨_, rfl⟩
        have h := h v21 e_v21
        refine g_iinc C (v := v21) (lv2 := [(0, .ref (ad 6)), (1, .int v20), (2, .int v21)]) d_RU_dropEmpty_84 2 rfl (by rw [e_v21]; rfl) (by decide) rfl ?_
        refine g_goto C 4 d_RU_dropEmpty_87 (by decide) ?_
        exact ih v20 v21 (s.1, ua (ua (ua (ua (ua s.2 3 (upd (s.2 3) x1.toNatClampNeg v6)) 4 (upd (s.2 4) x1.toNatClampNeg v9)) 5 (upd (s.2 5) x1.toNatClampNeg v12)) 6 (upd (s.2 6) x1.toNatClampNeg v15)) 7 (upd (s.2 7) x1.toNatClampNeg v18)) h
def wp_Runs_dropEmpty (s : gS) (Q : gS → Prop) : Prop := ∃ n22 : Nat, wl_Runs_dropEmpty_4 Q (fun v24 v25 s23 => Q (up s23.1 9 (v24), s23.2))  n22 0 0 s
set_option maxHeartbeats 4000000 in
set_option maxRecDepth 100000 in
theorem w_Runs_dropEmpty (X : gX) (ad : Nat → Nat) (s : gS) (Q : gS → Prop) (h : wp_Runs_dropEmpty  s Q) (E : gE) (C : gC X E b_RU_dropEmpty 3 R_RU) (hRm : gRm E = rm_Runs_dropEmpty) (r : gR X E b_RU_dropEmpty none (gBv (wC ad X) Q)) : gW X E 0 0 (wC ad X s) [(0, .ref (ad 6))] 0 [] := by
  have h : ∃ n22 : Nat, wl_Runs_dropEmpty_4 Q (fun v24 v25 s23 => Q (up s23.1 9 (v24), s23.2))  n22 0 0 s := h
  refine g_iconst C 0 d_RU_dropEmpty_0 (by decide) ?_
  refine g_istore_n C (lv2 := [(0, .ref (ad 6)), (1, .int 0)]) d_RU_dropEmpty_1 rfl (by decide) rfl ?_
  refine g_iconst C 0 d_RU_dropEmpty_2 (by decide) ?_
  refine g_istore_n C (lv2 := [(0, .ref (ad 6)), (1, .int 0), (2, .int 0)]) d_RU_dropEmpty_3 rfl (by decide) rfl ?_
  obtain ⟨n22, h⟩ := h
  refine w_Runs_dropEmpty_4 X ad Q (_)  E C hRm r ?_ n22 0 0 s h
  intro v24 v25 s23 h
  refine g_aload_n C d_RU_dropEmpty_90 rfl 0 rfl ?_
  refine g_iload_n C d_RU_dropEmpty_91 rfl 1 rfl ?_
  refine g_put C (ws2 := wC ad X (up s23.1 9 (v24), s23.2)) 6 7 iw_RU ty_RU tyok_RU nm_RU rfl rfl (by decide) (gt 183 (by decide +kernel) rfl) rfl rfl rfl rfl (Nat.le_of_ble_eq_true rfl) rfl d_RU_dropEmpty_92 ?_
  exact g_vret r d_RU_dropEmpty_95 (gBv_mk h)
theorem m_Runs_dropEmpty (X : gX) (ad : Nat → Nat) (s : gS) (Q : gS → Prop) (h : wp_Runs_dropEmpty  s Q) (l : Launch) : gM l X y_RU_dropEmpty b_RU_dropEmpty 3 none rm_Runs_dropEmpty [.ref (ad 6)] (wC ad X s) (gBv (wC ad X) Q) :=
  gM_of (by decide +kernel) rfl (Nat.le_of_ble_eq_true rfl) rfl (fun E C hRm r => w_Runs_dropEmpty X ad  s Q h E C hRm r)
def rm_Runs_add : Room := { frames := 1, cells := 0, slots := 0, locals := 22 }
def wp_Runs_add (a1 : Int32) (a2 : Int32) (a3 : Int32) (a4 : Int32) (s : gS) (Q : gS → Prop) : Prop := (((s.1 9) < 9 → vp_in (s.1 9) 9 ∧ (vp_in (s.1 9) 9 ∧ (vp_in (s.1 9) 9 ∧ (vp_in (s.1 9) 9 ∧ (wp_Disk_get a1 (2 + a2) (s.1, ua (ua (ua (ua s.2 3 (upd (s.2 3) (s.1 9).toNatClampNeg a1)) 4 (upd (s.2 4) (s.1 9).toNatClampNeg a2)) 5 (upd (s.2 5) (s.1 9).toNatClampNeg a3)) 6 (upd (s.2 6) (s.1 9).toNatClampNeg a4)) (fun r7 s6 => vp_in (s.1 9) 9 ∧ (∀ v9 : Int32, v9 = (s6.1 9) + 1 → Q (up s6.1 9 (v9), ua s6.2 7 (upd (s6.2 7) (s.1 9).toNatClampNeg r7))))))))) ∧ (¬ (s.1 9) < 9 → Q s))
set_option maxHeartbeats 4000000 in
set_option maxRecDepth 100000 in
theorem w_Runs_add (X : gX) (ad : Nat → Nat) (a1 : Int32) (a2 : Int32) (a3 : Int32) (a4 : Int32) (s : gS) (Q : gS → Prop) (h : wp_Runs_add a1 a2 a3 a4 s Q) (E : gE) (C : gC X E b_RU_add 5 R_RU) (hRm : gRm E = rm_Runs_add) (r : gR X E b_RU_add none (gBv (wC ad X) Q)) : gW X E 0 0 (wC ad X s) [(0, .ref (ad 6)), (1, .int a1), (2, .int a2), (3, .int a3), (4, .int a4)] 0 [] := by
  have h : (((s.1 9) < 9 → vp_in (s.1 9) 9 ∧ (vp_in (s.1 9) 9 ∧ (vp_in (s.1 9) 9 ∧ (vp_in (s.1 9) 9 ∧ (wp_Disk_get a1 (2 + a2) (s.1, ua (ua (ua (ua s.2 3 (upd (s.2 3) (s.1 9).toNatClampNeg a1)) 4 (upd (s.2 4) (s.1 9).toNatClampNeg a2)) 5 (upd (s.2 5) (s.1 9).toNatClampNeg a3)) 6 (upd (s.2 6) (s.1 9).toNatClampNeg a4)) (fun r7 s6 => vp_in (s.1 9) 9 ∧ (∀ v9 : Int32, v9 = (s6.1 9) + 1 → Q (up s6.1 9 (v9), ua s6.2 7 (upd (s6.2 7) (s.1 9).toNatClampNeg r7))))))))) ∧ (¬ (s.1 9) < 9 → Q s)) := h
  refine g_aload_n C d_RU_add_0 rfl 0 rfl ?_
  refine g_get C (v := .int (s.1 9)) 6 7 iw_RU rfl rfl (by decide) (gt 183 (by decide +kernel) rfl) rfl rfl d_RU_add_1 ?_
  refine g_bipush C 9 d_RU_add_4 (by decide) ?_
  refine g_icmp_lt C 10 d_RU_add_6 (by decide) (fun c1 => ?_) (fun c1 => ?_)
  · have h := h.1 c1
    refine g_aload_n C d_RU_add_10 rfl 0 rfl ?_
    refine g_get C (v := .ref (ad 7)) 6 1 iw_RU rfl rfl (by decide) (gt 169 (by decide +kernel) rfl) rfl rfl d_RU_add_11 ?_
    refine g_aload_n C d_RU_add_14 rfl 0 rfl ?_
    refine g_get C (v := .int (s.1 9)) 6 7 iw_RU rfl rfl (by decide) (gt 183 (by decide +kernel) rfl) rfl rfl d_RU_add_15 ?_
    refine g_iload_n C d_RU_add_18 rfl 1 rfl ?_
    obtain ⟨i2, h⟩ := h
    refine g_iast C 7 0 (ws2 := wC ad X (s.1, ua s.2 3 (upd (s.2 3) (s.1 9).toNatClampNeg a1))) rfl rfl i2 rfl d_RU_add_19 ?_
    refine g_aload_n C d_RU_add_20 rfl 0 rfl ?_
    refine g_get C (v := .ref (ad 8)) 6 2 iw_RU rfl rfl (by decide) (gt 172 (by decide +kernel) rfl) rfl rfl d_RU_add_21 ?_
    refine g_aload_n C d_RU_add_24 rfl 0 rfl ?_
    refine g_get C (v := .int (s.1 9)) 6 7 iw_RU rfl rfl (by decide) (gt 183 (by decide +kernel) rfl) rfl rfl d_RU_add_25 ?_
    refine g_iload_n C d_RU_add_28 rfl 2 rfl ?_
    obtain ⟨i3, h⟩ := h
    refine g_iast C 8 0 (ws2 := wC ad X (s.1, ua (ua s.2 3 (upd (s.2 3) (s.1 9).toNatClampNeg a1)) 4 (upd (s.2 4) (s.1 9).toNatClampNeg a2))) rfl rfl i3 rfl d_RU_add_29 ?_
    refine g_aload_n C d_RU_add_30 rfl 0 rfl ?_
    refine g_get C (v := .ref (ad 9)) 6 3 iw_RU rfl rfl (by decide) (gt 175 (by decide +kernel) rfl) rfl rfl d_RU_add_31 ?_
    refine g_aload_n C d_RU_add_34 rfl 0 rfl ?_
    refine g_get C (v := .int (s.1 9)) 6 7 iw_RU rfl rfl (by decide) (gt 183 (by decide +kernel) rfl) rfl rfl d_RU_add_35 ?_
    refine g_iload_n C d_RU_add_38 rfl 3 rfl ?_
    obtain ⟨i4, h⟩ := h
    refine g_iast C 9 0 (ws2 := wC ad X (s.1, ua (ua (ua s.2 3 (upd (s.2 3) (s.1 9).toNatClampNeg a1)) 4 (upd (s.2 4) (s.1 9).toNatClampNeg a2)) 5 (upd (s.2 5) (s.1 9).toNatClampNeg a3))) rfl rfl i4 rfl d_RU_add_39 ?_
    refine g_aload_n C d_RU_add_40 rfl 0 rfl ?_
    refine g_get C (v := .ref (ad 10)) 6 4 iw_RU rfl rfl (by decide) (gt 178 (by decide +kernel) rfl) rfl rfl d_RU_add_41 ?_
    refine g_aload_n C d_RU_add_44 rfl 0 rfl ?_
    refine g_get C (v := .int (s.1 9)) 6 7 iw_RU rfl rfl (by decide) (gt 183 (by decide +kernel) rfl) rfl rfl d_RU_add_45 ?_
    refine g_iload C d_RU_add_48 4 rfl ?_
    obtain ⟨i5, h⟩ := h
    refine g_iast C 10 0 (ws2 := wC ad X (s.1, ua (ua (ua (ua s.2 3 (upd (s.2 3) (s.1 9).toNatClampNeg a1)) 4 (upd (s.2 4) (s.1 9).toNatClampNeg a2)) 5 (upd (s.2 5) (s.1 9).toNatClampNeg a3)) 6 (upd (s.2 6) (s.1 9).toNatClampNeg a4))) rfl rfl i5 rfl d_RU_add_50 ?_
    refine g_aload_n C d_RU_add_51 rfl 0 rfl ?_
    refine g_get C (v := .ref (ad 11)) 6 5 iw_RU rfl rfl (by decide) (gt 181 (by decide +kernel) rfl) rfl rfl d_RU_add_52 ?_
    refine g_aload_n C d_RU_add_55 rfl 0 rfl ?_
    refine g_get C (v := .int (s.1 9)) 6 7 iw_RU rfl rfl (by decide) (gt 183 (by decide +kernel) rfl) rfl rfl d_RU_add_56 ?_
    refine g_aload_n C d_RU_add_59 rfl 0 rfl ?_
    refine g_get C (v := .ref (ad 1)) 6 0 iw_RU rfl rfl (by decide) (gt 168 (by decide +kernel) rfl) rfl rfl d_RU_add_60 ?_
    refine g_iload_n C d_RU_add_63 rfl 1 rfl ?_
    refine g_iconst C 2 d_RU_add_64 (by decide) ?_
    refine g_iload_n C d_RU_add_65 rfl 2 rfl ?_
    refine g_iadd C d_RU_add_66 ?_
    refine g_callVN (host := "SpillQueue") C (rest := [.int (s.1 9), .ref (ad 11)]) 1 (fun l => m_Disk_get X ad a1 (2 + a2) (s.1, ua (ua (ua (ua s.2 3 (upd (s.2 3) (s.1 9).toNatClampNeg a1)) 4 (upd (s.2 4) (s.1 9).toNatClampNeg a2)) 5 (upd (s.2 5) (s.1 9).toNatClampNeg a3)) 6 (upd (s.2 6) (s.1 9).toNatClampNeg a4)) _ h l) rfl rfl (gn 409 (by decide +kernel) rfl) cb_DK_get ⟨rfl, rfl⟩ (by rw [hRm]; decide) ⟨Nat.zero_le _, Nat.zero_le _⟩ rfl rfl (Nat.le_of_ble_eq_true rfl) d_RU_add_67 (gki (fun r7 s6 h => ?_))
    obtain ⟨i8, h⟩ := h
    refine g_iast C 11 0 (ws2 := wC ad X (s6.1, ua s6.2 7 (upd (s6.2 7) (s.1 9).toNatClampNeg r7))) rfl rfl i8 rfl d_RU_add_70 ?_
    refine g_aload_n C d_RU_add_71 rfl 0 rfl ?_
    refine g_dup C rfl d_RU_add_72 ?_
    refine g_get C (v := .int (s6.1 9)) 6 7 iw_RU rfl rfl (by decide) (gt 183 (by decide +kernel) rfl) rfl rfl d_RU_add_73 ?_
    refine g_iconst C 1 d_RU_add_76 (by decide) ?_
    refine g_iadd C d_RU_add_77 ?_
    refine g_topi (fun v9 e_v9 => ?_)
    have h := h v9 e_v9
    refine g_put C (ws2 := wC ad X (up s6.1 9 (v9), ua s6.2 7 (upd (s6.2 7) (s.1 9).toNatClampNeg r7))) 6 7 iw_RU ty_RU tyok_RU nm_RU rfl rfl (by decide) (gt 183 (by decide +kernel) rfl) rfl rfl rfl rfl (Nat.le_of_ble_eq_true rfl) rfl d_RU_add_78 ?_
    exact g_vret r d_RU_add_81 (gBv_mk h)
  · have h := h.2 c1
    exact g_vret r d_RU_add_9 (gBv_mk h)
theorem m_Runs_add (X : gX) (ad : Nat → Nat) (a1 : Int32) (a2 : Int32) (a3 : Int32) (a4 : Int32) (s : gS) (Q : gS → Prop) (h : wp_Runs_add a1 a2 a3 a4 s Q) (l : Launch) : gM l X y_RU_add b_RU_add 5 none rm_Runs_add [.ref (ad 6), .int a1, .int a2, .int a3, .int a4] (wC ad X s) (gBv (wC ad X) Q) :=
  gM_of (by decide +kernel) rfl (Nat.le_of_ble_eq_true rfl) rfl (fun E C hRm r => w_Runs_add X ad a1 a2 a3 a4 s Q h E C hRm r)
def rm_SpillQueue_makeRun_4 : Room := { frames := 3, cells := 0, slots := 0, locals := 68 }
def wl_SpillQueue_makeRun_4_106 (Q : Int32 → gS → Prop) (K : Int32 → gS → Prop) (x2 : Int32) (x3 : Int32) (x4 : Int32) (x5 : Int32) (x6 : Int32) (x7 : Int32) : Nat → Int32 → gS → Prop
  | 0, _, _ => False
  | n + 1, x8, s => ((x7 ≤ x8 → K x8 s) ∧ (¬ x7 ≤ x8 → wp_Memory_takeLeast s (fun r20 s19 => wp_Disk_setRow (2 + x8) r20 s19 (fun s21 => ∀ v23 : Int32, v23 = x8 + 1 → wl_SpillQueue_makeRun_4_106 Q K x2 x3 x4 x5 x6 x7 n v23 s21))))
set_option maxHeartbeats 4000000 in
set_option maxRecDepth 100000 in
theorem w_SpillQueue_makeRun_4_106 (X : gX) (ad : Nat → Nat) (Q : Int32 → gS → Prop) (K : Int32 → gS → Prop) (x2 : Int32) (x3 : Int32) (x4 : Int32) (x5 : Int32) (x6 : Int32) (x7 : Int32) (E : gE) (C : gC X E b_SQ_makeRun 9 R_SQ) (hRm : gRm E = rm_SpillQueue_makeRun_4) (r : gR X E b_SQ_makeRun (some .int) (gBi (wC ad X) Q)) (hK : ∀ (x8 : Int32) (s : gS), K x8 s → gW X E 0 0 (wC ad X s) [(0, .ref (ad 0)), (1, .ref (ad 4)), (2, .int x2), (3, .int x3), (4, .int x4), (5, .int x5), (6, .int x6), (7, .int x7), (8, .int x8)] 134 []) : ∀ (n : Nat) (x8 : Int32) (s : gS), wl_SpillQueue_makeRun_4_106 Q K x2 x3 x4 x5 x6 x7 n x8 s → gW X E 0 0 (wC ad X s) [(0, .ref (ad 0)), (1, .ref (ad 4)), (2, .int x2), (3, .int x3), (4, .int x4), (5, .int x5), (6, .int x6), (7, .int x7), (8, .int x8)] 106 [] := by
  intro n
  induction n with
  | zero => intro x8 s h; exact False.elim h
  | succ n ih =>
    intro x8 s h
    have h : ((x7 ≤ x8 → K x8 s) ∧ (¬ x7 ≤ x8 → wp_Memory_takeLeast s (fun r20 s19 => wp_Disk_setRow (2 + x8) r20 s19 (fun s21 => ∀ v23 : Int32, v23 = x8 + 1 → wl_SpillQueue_makeRun_4_106 Q K x2 x3 x4 x5 x6 x7 n v23 s21)))) := h
    refine g_iload C d_SQ_makeRun_106 8 rfl ?_
    refine g_iload C d_SQ_makeRun_108 7 rfl ?_
    refine g_icmp_ge C 134 d_SQ_makeRun_110 (by decide) (fun c18 => ?_) (fun c18 => ?_)
    · have h := h.1 c18
      exact hK x8 s h
    · have h := h.2 c18
      refine g_aload_n C d_SQ_makeRun_113 rfl 0 rfl ?_
      refine g_get C (v := .ref (ad 1)) 0 0 iw_SQ rfl rfl (by decide) (gt 229 (by decide +kernel) rfl) rfl rfl d_SQ_makeRun_114 ?_
      refine g_iconst C 2 d_SQ_makeRun_117 (by decide) ?_
      refine g_iload C d_SQ_makeRun_118 8 rfl ?_
      refine g_iadd C d_SQ_makeRun_120 ?_
      refine g_aload_n C d_SQ_makeRun_121 rfl 1 rfl ?_
      refine g_callU C (x := ⟨"SpillQueue$Keys", "takeLeast", "()I"⟩) (rest := [.int (2 + x8), .ref (ad 1)]) (owner := "SpillQueue$Keys") 4 (fun l => m_Memory_takeLeast X ad  s _ h l) rfl rfl (gt 503 (by decide +kernel) rfl) (gt 505 (by decide +kernel) rfl) (gn 504 (by decide +kernel) rfl) (gt 506 (by decide +kernel) rfl) (gt 507 (by decide +kernel) rfl) (gt 90 (by decide +kernel) rfl) (gt 508 rfl rfl) (by decide +kernel) ⟨rfl, rfl⟩ (by rw [hRm]; decide) ⟨Nat.zero_le _, Nat.zero_le _⟩ rfl rfl (Nat.le_of_ble_eq_true rfl) d_SQ_makeRun_122 (gki (fun r20 s19 h => ?_))
      refine g_callVN (host := "SpillQueue") C (rest := []) 1 (fun l => m_Disk_setRow X ad (2 + x8) r20 s19 _ h l) rfl rfl (gn 499 (by decide +kernel) rfl) cb_DK_setRow ⟨rfl, rfl⟩ (by rw [hRm]; decide) ⟨Nat.zero_le _, Nat.zero_le _⟩ rfl rfl (Nat.le_of_ble_eq_true rfl) d_SQ_makeRun_125 (gkv (fun s21 h => ?_))
      obtain ⟨v23, e_v23⟩ : ∃ y : Int32, y = x8 + 1 := ⟨_, rfl⟩
      have h := h v23 e_v23
      refine g_iinc C (v := v23) (lv2 := [(0, .ref (ad 0)), (1, .ref (ad 4)), (2, .int x2), (3, .int x3), (4, .int x4), (5, .int x5), (6, .int x6), (7, .int x7), (8, .int v23)]) d_SQ_makeRun_128 8 rfl (by rw [e_v23]; rfl) (by decide) rfl ?_
      refine g_goto C 106 d_SQ_makeRun_131 (by decide) ?_
      exact ih v23 s21 h
def wl_SpillQueue_makeRun_4_45 (Q : Int32 → gS → Prop) (K : Int32 → gS → Prop) (x2 : Int32) (x3 : Int32) (x4 : Int32) (x5 : Int32) : Nat → Int32 → gS → Prop
  | 0, _, _ => False
  | n + 1, x6, s => ((x4 ≤ x6 → K x6 s) ∧ (¬ x4 ≤ x6 → wp_Disk_clearRow s (fun s12 => ((x4 ≤ (x6 + 1) → wp_Disk_setRow 1 0 s12 (fun s15 => ∀ v17 : Int32, v17 = (if (x3 - (x6 * x5)) < x5 then (x3 - (x6 * x5)) else x5) → ∃ n24 : Nat, wl_SpillQueue_makeRun_4_106 Q (fun v26 s25 => vp_in x6 200 ∧ (wp_Disk_writeRow (s25.2 12 x6.toNatClampNeg) s25 (fun r29 s28 => ((¬ r29 = 0 → ∀ v31 : Int32, v31 = x6 + 1 → wl_SpillQueue_makeRun_4_45 Q K x2 x3 x4 x5 n v31 s28) ∧ (r29 = 0 → wp_SpillQueue_powerOff s28 (fun s32 => Q (-9) s32)))))) x2 x3 x4 x5 x6 v17 n24 0 s15)) ∧ (¬ x4 ≤ (x6 + 1) → vp_in (x6 + 1) 200 ∧ (wp_Disk_setRow 1 (s12.2 12 (x6 + 1).toNatClampNeg) s12 (fun s35 => ∀ v37 : Int32, v37 = (if (x3 - (x6 * x5)) < x5 then (x3 - (x6 * x5)) else x5) → ∃ n38 : Nat, wl_SpillQueue_makeRun_4_106 Q (fun v40 s39 => vp_in x6 200 ∧ (wp_Disk_writeRow (s39.2 12 x6.toNatClampNeg) s39 (fun r43 s42 => ((¬ r43 = 0 → ∀ v45 : Int32, v45 = x6 + 1 → wl_SpillQueue_makeRun_4_45 Q K x2 x3 x4 x5 n v45 s42) ∧ (r43 = 0 → wp_SpillQueue_powerOff s42 (fun s46 => Q (-9) s46)))))) x2 x3 x4 x5 x6 v37 n38 0 s35)))))))
set_option maxHeartbeats 4000000 in
set_option maxRecDepth 100000 in
theorem w_SpillQueue_makeRun_4_45 (X : gX) (ad : Nat → Nat) (Q : Int32 → gS → Prop) (K : Int32 → gS → Prop) (x2 : Int32) (x3 : Int32) (x4 : Int32) (x5 : Int32) (E : gE) (C : gC X E b_SQ_makeRun 9 R_SQ) (hRm : gRm E = rm_SpillQueue_makeRun_4) (r : gR X E b_SQ_makeRun (some .int) (gBi (wC ad X) Q)) (hK : ∀ (x6 : Int32) (s : gS), K x6 s → gW X E 0 0 (wC ad X s) [(0, .ref (ad 0)), (1, .ref (ad 4)), (2, .int x2), (3, .int x3), (4, .int x4), (5, .int x5), (6, .int x6)] 164 []) : ∀ (n : Nat) (x6 : Int32) (s : gS), wl_SpillQueue_makeRun_4_45 Q K x2 x3 x4 x5 n x6 s → gW X E 0 0 (wC ad X s) [(0, .ref (ad 0)), (1, .ref (ad 4)), (2, .int x2), (3, .int x3), (4, .int x4), (5, .int x5), (6, .int x6)] 45 [] := by
  intro n
  induction n with
  | zero => intro x6 s h; exact False.elim h
  | succ n ih =>
    intro x6 s h
    have h : ((x4 ≤ x6 → K x6 s) ∧ (¬ x4 ≤ x6 → wp_Disk_clearRow s (fun s12 => ((x4 ≤ (x6 + 1) → wp_Disk_setRow 1 0 s12 (fun s15 => ∀ v17 : Int32, v17 = (if (x3 - (x6 * x5)) < x5 then (x3 - (x6 * x5)) else x5) → ∃ n24 : Nat, wl_SpillQueue_makeRun_4_106 Q (fun v26 s25 => vp_in x6 200 ∧ (wp_Disk_writeRow (s25.2 12 x6.toNatClampNeg) s25 (fun r29 s28 => ((¬ r29 = 0 → ∀ v31 : Int32, v31 = x6 + 1 → wl_SpillQueue_makeRun_4_45 Q K x2 x3 x4 x5 n v31 s28) ∧ (r29 = 0 → wp_SpillQueue_powerOff s28 (fun s32 => Q (-9) s32)))))) x2 x3 x4 x5 x6 v17 n24 0 s15)) ∧ (¬ x4 ≤ (x6 + 1) → vp_in (x6 + 1) 200 ∧ (wp_Disk_setRow 1 (s12.2 12 (x6 + 1).toNatClampNeg) s12 (fun s35 => ∀ v37 : Int32, v37 = (if (x3 - (x6 * x5)) < x5 then (x3 - (x6 * x5)) else x5) → ∃ n38 : Nat, wl_SpillQueue_makeRun_4_106 Q (fun v40 s39 => vp_in x6 200 ∧ (wp_Disk_writeRow (s39.2 12 x6.toNatClampNeg) s39 (fun r43 s42 => ((¬ r43 = 0 → ∀ v45 : Int32, v45 = x6 + 1 → wl_SpillQueue_makeRun_4_45 Q K x2 x3 x4 x5 n v45 s42) ∧ (r43 = 0 → wp_SpillQueue_powerOff s42 (fun s46 => Q (-9) s46)))))) x2 x3 x4 x5 x6 v37 n38 0 s35))))))) := h
    refine g_iload C d_SQ_makeRun_45 6 rfl ?_
    refine g_iload C d_SQ_makeRun_47 4 rfl ?_
    refine g_icmp_ge C 164 d_SQ_makeRun_49 (by decide) (fun c11 => ?_) (fun c11 => ?_)
    · have h := h.1 c11
      exact hK x6 s h
    · have h := h.2 c11
      refine g_aload_n C d_SQ_makeRun_52 rfl 0 rfl ?_
      refine g_get C (v := .ref (ad 1)) 0 0 iw_SQ rfl rfl (by decide) (gt 229 (by decide +kernel) rfl) rfl rfl d_SQ_makeRun_53 ?_
      refine g_callVN (host := "SpillQueue") C (rest := []) 1 (fun l => m_Disk_clearRow X ad  s _ h l) rfl rfl (gn 498 (by decide +kernel) rfl) cb_DK_clearRow ⟨rfl, rfl⟩ (by rw [hRm]; decide) ⟨Nat.zero_le _, Nat.zero_le _⟩ rfl rfl (Nat.le_of_ble_eq_true rfl) d_SQ_makeRun_56 (gkv (fun s12 h => ?_))
      refine g_aload_n C d_SQ_makeRun_59 rfl 0 rfl ?_
      refine g_get C (v := .ref (ad 1)) 0 0 iw_SQ rfl rfl (by decide) (gt 229 (by decide +kernel) rfl) rfl rfl d_SQ_makeRun_60 ?_
      refine g_iconst C 1 d_SQ_makeRun_63 (by decide) ?_
      refine g_iload C d_SQ_makeRun_64 6 rfl ?_
      refine g_iconst C 1 d_SQ_makeRun_66 (by decide) ?_
      refine g_iadd C d_SQ_makeRun_67 ?_
      refine g_iload C d_SQ_makeRun_68 4 rfl ?_
      refine g_icmp_ge C 85 d_SQ_makeRun_70 (by decide) (fun c14 => ?_) (fun c14 => ?_)
      · have h := h.1 c14
        refine g_iconst C 0 d_SQ_makeRun_85 (by decide) ?_
        refine g_callVN (host := "SpillQueue") C (rest := []) 1 (fun l => m_Disk_setRow X ad 1 0 s12 _ h l) rfl rfl (gn 499 (by decide +kernel) rfl) cb_DK_setRow ⟨rfl, rfl⟩ (by rw [hRm]; decide) ⟨Nat.zero_le _, Nat.zero_le _⟩ rfl rfl (Nat.le_of_ble_eq_true rfl) d_SQ_makeRun_86 (gkv (fun s15 h => ?_))
        refine g_iload C d_SQ_makeRun_89 5 rfl ?_
        refine g_iload_n C d_SQ_makeRun_91 rfl 3 rfl ?_
        refine g_iload C d_SQ_makeRun_92 6 rfl ?_
        refine g_iload C d_SQ_makeRun_94 5 rfl ?_
        refine g_imul C d_SQ_makeRun_96 ?_
        refine g_isub C d_SQ_makeRun_97 ?_
        refine g_mmin C (gt 500 (by decide +kernel) rfl) (gt 501 (by decide +kernel) rfl) (gt 102 (by decide +kernel) rfl) (gt 502 rfl rfl) (by rw [hRm]; decide) ⟨Nat.zero_le _, Nat.zero_le _⟩ d_SQ_makeRun_98 ?_
        refine g_topi (fun v17 e_v17 => ?_)
        have h := h v17 e_v17
        refine g_istore C (lv2 := [(0, .ref (ad 0)), (1, .ref (ad 4)), (2, .int x2), (3, .int x3), (4, .int x4), (5, .int x5), (6, .int x6), (7, .int v17)]) d_SQ_makeRun_101 (by decide) rfl ?_
        refine g_iconst C 0 d_SQ_makeRun_103 (by decide) ?_
        refine g_istore C (lv2 := [(0, .ref (ad 0)), (1, .ref (ad 4)), (2, .int x2), (3, .int x3), (4, .int x4), (5, .int x5), (6, .int x6), (7, .int v17), (8, .int 0)]) d_SQ_makeRun_104 (by decide) rfl ?_
        obtain ⟨n24, h⟩ := h
        refine w_SpillQueue_makeRun_4_106 X ad Q (_) x2 x3 x4 x5 x6 v17 E C hRm r ?_ n24 0 s15 h
        intro v26 s25 h
        refine g_aload_n C d_SQ_makeRun_134 rfl 0 rfl ?_
        refine g_get C (v := .ref (ad 1)) 0 0 iw_SQ rfl rfl (by decide) (gt 229 (by decide +kernel) rfl) rfl rfl d_SQ_makeRun_135 ?_
        refine g_aload_n C d_SQ_makeRun_138 rfl 0 rfl ?_
        refine g_get C (v := .ref (ad 20)) 0 6 iw_SQ rfl rfl (by decide) (gt 235 (by decide +kernel) rfl) rfl rfl d_SQ_makeRun_139 ?_
        refine g_iload C d_SQ_makeRun_142 6 rfl ?_
        obtain ⟨i27, h⟩ := h
        refine g_iald C 20 0 rfl rfl i27 d_SQ_makeRun_144 ?_
        refine g_callVN (host := "SpillQueue") C (rest := []) 1 (fun l => m_Disk_writeRow X ad (s25.2 12 x6.toNatClampNeg) s25 _ h l) rfl rfl (gn 529 (by decide +kernel) rfl) cb_DK_writeRow ⟨rfl, rfl⟩ (by rw [hRm]; decide) ⟨Nat.zero_le _, Nat.zero_le _⟩ rfl rfl (Nat.le_of_ble_eq_true rfl) d_SQ_makeRun_145 (gki (fun r29 s28 h => ?_))
        refine g_if_ne C 158 d_SQ_makeRun_148 (by decide) (fun c30 => ?_) (fun c30 => ?_)
        · have h := h.1 c30
          obtain ⟨v31, e_v31⟩ : ∃ y : Int32, y = x6 + 1 := ⟨_, rfl⟩
          have h := h v31 e_v31
          refine g_iinc C (v := v31) (lv2 := [(0, .ref (ad 0)), (1, .ref (ad 4)), (2, .int x2), (3, .int x3), (4, .int x4), (5, .int x5), (6, .int v31), (7, .int v17), (8, .int v26)]) d_SQ_makeRun_158 6 rfl (by rw [e_v31]; rfl) (by decide) rfl ?_
          refine g_goto C 45 d_SQ_makeRun_161 (by decide) ?_
          refine g_lv C [0, 1, 2, 3, 4, 5, 6] rfl ?_
          exact ih v31 s28 h
        · have h := h.2 c30
          refine g_aload_n C d_SQ_makeRun_151 rfl 0 rfl ?_
          refine g_callV C (rest := []) 0 (fun l => m_SpillQueue_powerOff X ad  s28 _ h l) rfl rfl (gt 351 (by decide +kernel) rfl) cb_SQ_powerOff ⟨rfl, rfl⟩ (by rw [hRm]; decide) ⟨Nat.zero_le _, Nat.zero_le _⟩ rfl rfl (Nat.le_of_ble_eq_true rfl) d_SQ_makeRun_152 (gkv (fun s32 h => ?_))
          refine g_bipush C (-9) d_SQ_makeRun_155 (by decide) ?_
          exact g_iret r rfl d_SQ_makeRun_157 (gBi_mk h)
      · have h := h.2 c14
        refine g_aload_n C d_SQ_makeRun_73 rfl 0 rfl ?_
        refine g_get C (v := .ref (ad 20)) 0 6 iw_SQ rfl rfl (by decide) (gt 235 (by decide +kernel) rfl) rfl rfl d_SQ_makeRun_74 ?_
        refine g_iload C d_SQ_makeRun_77 6 rfl ?_
        refine g_iconst C 1 d_SQ_makeRun_79 (by decide) ?_
        refine g_iadd C d_SQ_makeRun_80 ?_
        obtain ⟨i34, h⟩ := h
        refine g_iald C 20 0 rfl rfl i34 d_SQ_makeRun_81 ?_
        refine g_goto C 86 d_SQ_makeRun_82 (by decide) ?_
        refine g_callVN (host := "SpillQueue") C (rest := []) 1 (fun l => m_Disk_setRow X ad 1 (s12.2 12 (x6 + 1).toNatClampNeg) s12 _ h l) rfl rfl (gn 499 (by decide +kernel) rfl) cb_DK_setRow ⟨rfl, rfl⟩ (by rw [hRm]; decide) ⟨Nat.zero_le _, Nat.zero_le _⟩ rfl rfl (Nat.le_of_ble_eq_true rfl) d_SQ_makeRun_86 (gkv (fun s35 h => ?_))
        refine g_iload C d_SQ_makeRun_89 5 rfl ?_
        refine g_iload_n C d_SQ_makeRun_91 rfl 3 rfl ?_
        refine g_iload C d_SQ_makeRun_92 6 rfl ?_
        refine g_iload C d_SQ_makeRun_94 5 rfl ?_
        refine g_imul C d_SQ_makeRun_96 ?_
        refine g_isub C d_SQ_makeRun_97 ?_
        refine g_mmin C (gt 500 (by decide +kernel) rfl) (gt 501 (by decide +kernel) rfl) (gt 102 (by decide +kernel) rfl) (gt 502 rfl rfl) (by rw [hRm]; decide) ⟨Nat.zero_le _, Nat.zero_le _⟩ d_SQ_makeRun_98 ?_
        refine g_topi (fun v37 e_v37 => ?_)
        have h := h v37 e_v37
        refine g_istore C (lv2 := [(0, .ref (ad 0)), (1, .ref (ad 4)), (2, .int x2), (3, .int x3), (4, .int x4), (5, .int x5), (6, .int x6), (7, .int v37)]) d_SQ_makeRun_101 (by decide) rfl ?_
        refine g_iconst C 0 d_SQ_makeRun_103 (by decide) ?_
        refine g_istore C (lv2 := [(0, .ref (ad 0)), (1, .ref (ad 4)), (2, .int x2), (3, .int x3), (4, .int x4), (5, .int x5), (6, .int x6), (7, .int v37), (8, .int 0)]) d_SQ_makeRun_104 (by decide) rfl ?_
        obtain ⟨n38, h⟩ := h
        refine w_SpillQueue_makeRun_4_106 X ad Q (_) x2 x3 x4 x5 x6 v37 E C hRm r ?_ n38 0 s35 h
        intro v40 s39 h
        refine g_aload_n C d_SQ_makeRun_134 rfl 0 rfl ?_
        refine g_get C (v := .ref (ad 1)) 0 0 iw_SQ rfl rfl (by decide) (gt 229 (by decide +kernel) rfl) rfl rfl d_SQ_makeRun_135 ?_
        refine g_aload_n C d_SQ_makeRun_138 rfl 0 rfl ?_
        refine g_get C (v := .ref (ad 20)) 0 6 iw_SQ rfl rfl (by decide) (gt 235 (by decide +kernel) rfl) rfl rfl d_SQ_makeRun_139 ?_
        refine g_iload C d_SQ_makeRun_142 6 rfl ?_
        obtain ⟨i41, h⟩ := h
        refine g_iald C 20 0 rfl rfl i41 d_SQ_makeRun_144 ?_
        refine g_callVN (host := "SpillQueue") C (rest := []) 1 (fun l => m_Disk_writeRow X ad (s39.2 12 x6.toNatClampNeg) s39 _ h l) rfl rfl (gn 529 (by decide +kernel) rfl) cb_DK_writeRow ⟨rfl, rfl⟩ (by rw [hRm]; decide) ⟨Nat.zero_le _, Nat.zero_le _⟩ rfl rfl (Nat.le_of_ble_eq_true rfl) d_SQ_makeRun_145 (gki (fun r43 s42 h => ?_))
        refine g_if_ne C 158 d_SQ_makeRun_148 (by decide) (fun c44 => ?_) (fun c44 => ?_)
        · have h := h.1 c44
          obtain ⟨v45, e_v45⟩ : ∃ y : Int32, y = x6 + 1 := ⟨_, rfl⟩
          have h := h v45 e_v45
          refine g_iinc C (v := v45) (lv2 := [(0, .ref (ad 0)), (1, .ref (ad 4)), (2, .int x2), (3, .int x3), (4, .int x4), (5, .int x5), (6, .int v45), (7, .int v37), (8, .int v40)]) d_SQ_makeRun_158 6 rfl (by rw [e_v45]; rfl) (by decide) rfl ?_
          refine g_goto C 45 d_SQ_makeRun_161 (by decide) ?_
          refine g_lv C [0, 1, 2, 3, 4, 5, 6] rfl ?_
          exact ih v45 s42 h
        · have h := h.2 c44
          refine g_aload_n C d_SQ_makeRun_151 rfl 0 rfl ?_
          refine g_callV C (rest := []) 0 (fun l => m_SpillQueue_powerOff X ad  s42 _ h l) rfl rfl (gt 351 (by decide +kernel) rfl) cb_SQ_powerOff ⟨rfl, rfl⟩ (by rw [hRm]; decide) ⟨Nat.zero_le _, Nat.zero_le _⟩ rfl rfl (Nat.le_of_ble_eq_true rfl) d_SQ_makeRun_152 (gkv (fun s46 h => ?_))
          refine g_bipush C (-9) d_SQ_makeRun_155 (by decide) ?_
          exact g_iret r rfl d_SQ_makeRun_157 (gBi_mk h)
def wp_SpillQueue_makeRun_4 (a2 : Int32) (s : gS) (Q : Int32 → gS → Prop) : Prop := wp_Memory_howMany s (fun r2 s1 => wp_Disk_blocksFor r2 s1 (fun r4 s3 => ((r4 < 1 → Q (-2) s3) ∧ (¬ r4 < 1 → wp_SpillQueue_gatherFree s3 (fun r7 s6 => ((r4 ≤ r7 → wp_Disk_keysPerBlock s6 (fun r10 s9 => ∃ n48 : Nat, wl_SpillQueue_makeRun_4_45 Q (fun v50 s49 => wp_Runs_dropEmpty s49 (fun s51 => vp_in 0 200 ∧ (wp_Runs_add (s51.2 12 (0 : Int32).toNatClampNeg) 0 r2 a2 s51 (fun s54 => Q 0 s54)))) a2 r2 r4 r10 n48 0 s9)) ∧ (¬ r4 ≤ r7 → Q (-2) s6)))))))
set_option maxHeartbeats 4000000 in
set_option maxRecDepth 100000 in
theorem w_SpillQueue_makeRun_4 (X : gX) (ad : Nat → Nat) (a2 : Int32) (s : gS) (Q : Int32 → gS → Prop) (h : wp_SpillQueue_makeRun_4 a2 s Q) (E : gE) (C : gC X E b_SQ_makeRun 9 R_SQ) (hRm : gRm E = rm_SpillQueue_makeRun_4) (r : gR X E b_SQ_makeRun (some .int) (gBi (wC ad X) Q)) : gW X E 0 0 (wC ad X s) [(0, .ref (ad 0)), (1, .ref (ad 4)), (2, .int a2)] 0 [] := by
  have h : wp_Memory_howMany s (fun r2 s1 => wp_Disk_blocksFor r2 s1 (fun r4 s3 => ((r4 < 1 → Q (-2) s3) ∧ (¬ r4 < 1 → wp_SpillQueue_gatherFree s3 (fun r7 s6 => ((r4 ≤ r7 → wp_Disk_keysPerBlock s6 (fun r10 s9 => ∃ n48 : Nat, wl_SpillQueue_makeRun_4_45 Q (fun v50 s49 => wp_Runs_dropEmpty s49 (fun s51 => vp_in 0 200 ∧ (wp_Runs_add (s51.2 12 (0 : Int32).toNatClampNeg) 0 r2 a2 s51 (fun s54 => Q 0 s54)))) a2 r2 r4 r10 n48 0 s9)) ∧ (¬ r4 ≤ r7 → Q (-2) s6))))))) := h
  refine g_aload_n C d_SQ_makeRun_0 rfl 1 rfl ?_
  refine g_callU C (x := ⟨"SpillQueue$Keys", "howMany", "()I"⟩) (rest := []) (owner := "SpillQueue$Keys") 4 (fun l => m_Memory_howMany X ad  s _ h l) rfl rfl (gt 469 (by decide +kernel) rfl) (gt 471 (by decide +kernel) rfl) (gn 470 (by decide +kernel) rfl) (gt 472 (by decide +kernel) rfl) (gt 265 (by decide +kernel) rfl) (gt 90 (by decide +kernel) rfl) (gt 267 rfl rfl) (by decide +kernel) ⟨rfl, rfl⟩ (by rw [hRm]; decide) ⟨Nat.zero_le _, Nat.zero_le _⟩ rfl rfl (Nat.le_of_ble_eq_true rfl) d_SQ_makeRun_1 (gki (fun r2 s1 h => ?_))
  refine g_istore_n C (lv2 := [(0, .ref (ad 0)), (1, .ref (ad 4)), (2, .int a2), (3, .int r2)]) d_SQ_makeRun_4 rfl (by decide) rfl ?_
  refine g_aload_n C d_SQ_makeRun_5 rfl 0 rfl ?_
  refine g_get C (v := .ref (ad 1)) 0 0 iw_SQ rfl rfl (by decide) (gt 229 (by decide +kernel) rfl) rfl rfl d_SQ_makeRun_6 ?_
  refine g_iload_n C d_SQ_makeRun_9 rfl 3 rfl ?_
  refine g_callVN (host := "SpillQueue") C (rest := []) 1 (fun l => m_Disk_blocksFor X ad r2 s1 _ h l) rfl rfl (gn 476 (by decide +kernel) rfl) cb_DK_blocksFor ⟨rfl, rfl⟩ (by rw [hRm]; decide) ⟨Nat.zero_le _, Nat.zero_le _⟩ rfl rfl (Nat.le_of_ble_eq_true rfl) d_SQ_makeRun_10 (gki (fun r4 s3 h => ?_))
  refine g_istore C (lv2 := [(0, .ref (ad 0)), (1, .ref (ad 4)), (2, .int a2), (3, .int r2), (4, .int r4)]) d_SQ_makeRun_13 (by decide) rfl ?_
  refine g_iload C d_SQ_makeRun_15 4 rfl ?_
  refine g_iconst C 1 d_SQ_makeRun_17 (by decide) ?_
  refine g_icmp_lt C 30 d_SQ_makeRun_18 (by decide) (fun c5 => ?_) (fun c5 => ?_)
  · have h := h.1 c5
    refine g_bipush C (-2) d_SQ_makeRun_30 (by decide) ?_
    exact g_iret r rfl d_SQ_makeRun_32 (gBi_mk h)
  · have h := h.2 c5
    refine g_aload_n C d_SQ_makeRun_21 rfl 0 rfl ?_
    refine g_callV C (rest := []) 0 (fun l => m_SpillQueue_gatherFree X ad  s3 _ h l) rfl rfl (gt 484 (by decide +kernel) rfl) cb_SQ_gatherFree ⟨rfl, rfl⟩ (by rw [hRm]; decide) ⟨Nat.zero_le _, Nat.zero_le _⟩ rfl rfl (Nat.le_of_ble_eq_true rfl) d_SQ_makeRun_22 (gki (fun r7 s6 h => ?_))
    refine g_iload C d_SQ_makeRun_25 4 rfl ?_
    refine g_icmp_ge C 33 d_SQ_makeRun_27 (by decide) (fun c8 => ?_) (fun c8 => ?_)
    · have h := h.1 c8
      refine g_aload_n C d_SQ_makeRun_33 rfl 0 rfl ?_
      refine g_get C (v := .ref (ad 1)) 0 0 iw_SQ rfl rfl (by decide) (gt 229 (by decide +kernel) rfl) rfl rfl d_SQ_makeRun_34 ?_
      refine g_callVN (host := "SpillQueue") C (rest := []) 1 (fun l => m_Disk_keysPerBlock X ad  s6 _ h l) rfl rfl (gn 497 (by decide +kernel) rfl) cb_DK_keysPerBlock ⟨rfl, rfl⟩ (by rw [hRm]; decide) ⟨Nat.zero_le _, Nat.zero_le _⟩ rfl rfl (Nat.le_of_ble_eq_true rfl) d_SQ_makeRun_37 (gki (fun r10 s9 h => ?_))
      refine g_istore C (lv2 := [(0, .ref (ad 0)), (1, .ref (ad 4)), (2, .int a2), (3, .int r2), (4, .int r4), (5, .int r10)]) d_SQ_makeRun_40 (by decide) rfl ?_
      refine g_iconst C 0 d_SQ_makeRun_42 (by decide) ?_
      refine g_istore C (lv2 := [(0, .ref (ad 0)), (1, .ref (ad 4)), (2, .int a2), (3, .int r2), (4, .int r4), (5, .int r10), (6, .int 0)]) d_SQ_makeRun_43 (by decide) rfl ?_
      obtain ⟨n48, h⟩ := h
      refine w_SpillQueue_makeRun_4_45 X ad Q (_) a2 r2 r4 r10 E C hRm r ?_ n48 0 s9 h
      intro v50 s49 h
      refine g_aload_n C d_SQ_makeRun_164 rfl 0 rfl ?_
      refine g_get C (v := .ref (ad 6)) 0 2 iw_SQ rfl rfl (by decide) (gt 231 (by decide +kernel) rfl) rfl rfl d_SQ_makeRun_165 ?_
      refine g_callVN (host := "SpillQueue") C (rest := []) 6 (fun l => m_Runs_dropEmpty X ad  s49 _ h l) rfl rfl (gn 530 (by decide +kernel) rfl) cb_RU_dropEmpty ⟨rfl, rfl⟩ (by rw [hRm]; decide) ⟨Nat.zero_le _, Nat.zero_le _⟩ rfl rfl (Nat.le_of_ble_eq_true rfl) d_SQ_makeRun_168 (gkv (fun s51 h => ?_))
      refine g_aload_n C d_SQ_makeRun_171 rfl 0 rfl ?_
      refine g_get C (v := .ref (ad 6)) 0 2 iw_SQ rfl rfl (by decide) (gt 231 (by decide +kernel) rfl) rfl rfl d_SQ_makeRun_172 ?_
      refine g_aload_n C d_SQ_makeRun_175 rfl 0 rfl ?_
      refine g_get C (v := .ref (ad 20)) 0 6 iw_SQ rfl rfl (by decide) (gt 235 (by decide +kernel) rfl) rfl rfl d_SQ_makeRun_176 ?_
      refine g_iconst C 0 d_SQ_makeRun_179 (by decide) ?_
      obtain ⟨i53, h⟩ := h
      refine g_iald C 20 0 rfl rfl i53 d_SQ_makeRun_180 ?_
      refine g_iconst C 0 d_SQ_makeRun_181 (by decide) ?_
      refine g_iload_n C d_SQ_makeRun_182 rfl 3 rfl ?_
      refine g_iload_n C d_SQ_makeRun_183 rfl 2 rfl ?_
      refine g_callVN (host := "SpillQueue") C (rest := []) 6 (fun l => m_Runs_add X ad (s51.2 12 (0 : Int32).toNatClampNeg) 0 r2 a2 s51 _ h l) rfl rfl (gn 534 (by decide +kernel) rfl) cb_RU_add ⟨rfl, rfl⟩ (by rw [hRm]; decide) ⟨Nat.zero_le _, Nat.zero_le _⟩ rfl rfl (Nat.le_of_ble_eq_true rfl) d_SQ_makeRun_184 (gkv (fun s54 h => ?_))
      refine g_iconst C 0 d_SQ_makeRun_187 (by decide) ?_
      exact g_iret r rfl d_SQ_makeRun_188 (gBi_mk h)
    · have h := h.2 c8
      refine g_bipush C (-2) d_SQ_makeRun_30 (by decide) ?_
      exact g_iret r rfl d_SQ_makeRun_32 (gBi_mk h)
theorem m_SpillQueue_makeRun_4 (X : gX) (ad : Nat → Nat) (a2 : Int32) (s : gS) (Q : Int32 → gS → Prop) (h : wp_SpillQueue_makeRun_4 a2 s Q) (l : Launch) : gM l X y_SQ_makeRun b_SQ_makeRun 9 (some .int) rm_SpillQueue_makeRun_4 [.ref (ad 0), .ref (ad 4), .int a2] (wC ad X s) (gBi (wC ad X) Q) :=
  gM_of (by decide +kernel) rfl (Nat.le_of_ble_eq_true rfl) rfl (fun E C hRm r => w_SpillQueue_makeRun_4 X ad a2 s Q h E C hRm r)
