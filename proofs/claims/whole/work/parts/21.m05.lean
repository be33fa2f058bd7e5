def rm_M_SpillQueueModel_least : Room := { frames := 1, cells := 0, slots := 0, locals := 22 }
def wp_M_SpillQueueModel_least (a1 : Int32) (s : gS) (Q : Int32 → gS → Prop) : Prop := vp_in a1 16 ∧ (vp_in a1 16 ∧ (wp_M_SpillQueueModel_at (s.2 2 a1.toNatClampNeg) (2 + (s.2 3 a1.toNatClampNeg)) s (fun r4 s3 => Q r4 s3)))
set_option maxHeartbeats 4000000 in
set_option maxRecDepth 100000 in
theorem w_M_SpillQueueModel_least (X : gX) (ad : Nat → Nat) (a1 : Int32) (s : gS) (Q : Int32 → gS → Prop) (h : wp_M_SpillQueueModel_least a1 s Q) (E : gE) (C : gC X E b_MO_least 2 R_MO) (hRm : gRm E = rm_M_SpillQueueModel_least) (r : gR X E b_MO_least (some .int) (gBi (wM ad X) Q)) : gW X E 0 0 (wM ad X s) [(0, .ref (ad 0)), (1, .int a1)] 0 [] := by
  have h : vp_in a1 16 ∧ (vp_in a1 16 ∧ (wp_M_SpillQueueModel_at (s.2 2 a1.toNatClampNeg) (2 + (s.2 3 a1.toNatClampNeg)) s (fun r4 s3 => Q r4 s3))) := h
  refine g_aload_n C d_MO_least_0 rfl 0 rfl ?_
  refine g_aload_n C d_MO_least_1 rfl 0 rfl ?_
  refine g_get C (v := .ref (ad 3)) 0 15 iw_MO rfl rfl (by decide) (gt 746 (by decide +kernel) rfl) rfl rfl d_MO_least_2 ?_
  refine g_iload_n C d_MO_least_5 rfl 1 rfl ?_
  obtain ⟨i1, h⟩ := h
  refine g_iald C 3 0 rfl rfl i1 d_MO_least_6 ?_
  refine g_iconst C 2 d_MO_least_7 (by decide) ?_
  refine g_aload_n C d_MO_least_8 rfl 0 rfl ?_
  refine g_get C (v := .ref (ad 4)) 0 16 iw_MO rfl rfl (by decide) (gt 747 (by decide +kernel) rfl) rfl rfl d_MO_least_9 ?_
  refine g_iload_n C d_MO_least_12 rfl 1 rfl ?_
  obtain ⟨i2, h⟩ := h
  refine g_iald C 4 0 rfl rfl i2 d_MO_least_13 ?_
  refine g_iadd C d_MO_least_14 ?_
  refine g_callV C (rest := []) 0 (fun l => m_M_SpillQueueModel_at X ad (s.2 2 a1.toNatClampNeg) (2 + (s.2 3 a1.toNatClampNeg)) s _ h l) rfl rfl (gt 840 (by decide +kernel) rfl) cb_MO_at ⟨rfl, rfl⟩ (by rw [hRm]; decide) ⟨Nat.zero_le _, Nat.zero_le _⟩ rfl rfl (Nat.le_of_ble_eq_true rfl) d_MO_least_15 (gki (fun r4 s3 h => ?_))
  exact g_iret r rfl d_MO_least_18 (gBi_mk h)
theorem m_M_SpillQueueModel_least (X : gX) (ad : Nat → Nat) (a1 : Int32) (s : gS) (Q : Int32 → gS → Prop) (h : wp_M_SpillQueueModel_least a1 s Q) (l : Launch) : gM l X y_MO_least b_MO_least 2 (some .int) rm_M_SpillQueueModel_least [.ref (ad 0), .int a1] (wM ad X s) (gBi (wM ad X) Q) :=
  gM_of (by decide +kernel) rfl (Nat.le_of_ble_eq_true rfl) rfl (fun E C hRm r => w_M_SpillQueueModel_least X ad a1 s Q h E C hRm r)
def rm_M_SpillQueueModel_leastRun : Room := { frames := 2, cells := 0, slots := 0, locals := 43 }
def wl_M_SpillQueueModel_leastRun_4 (Q : Int32 → gS → Prop) (K : Int32 → Int32 → gS → Prop) : Nat → Int32 → Int32 → gS → Prop
  | 0, _, _, _ => False
  | n + 1, x1, x2, s => (((s.1 12) ≤ x2 → K x1 x2 s) ∧ (¬ (s.1 12) ≤ x2 → ((x1 < 0 → ∀ v3 : Int32, v3 = x2 + 1 → wl_M_SpillQueueModel_leastRun_4 Q K n x2 v3 s) ∧ (¬ x1 < 0 → wp_M_SpillQueueModel_least x2 s (fun r5 s4 => wp_M_SpillQueueModel_least x1 s4 (fun r7 s6 => ((r7 ≤ r5 → ∀ v9 : Int32, v9 = x2 + 1 → wl_M_SpillQueueModel_leastRun_4 Q K n x1 v9 s6) ∧ (¬ r7 ≤ r5 → ∀ v10 : Int32, v10 = x2 + 1 → wl_M_SpillQueueModel_leastRun_4 Q K n x2 v10 s6))))))))
set_option maxHeartbeats 4000000 in
set_option maxRecDepth 100000 in
theorem w_M_SpillQueueModel_leastRun_4 (X : gX) (ad : Nat → Nat) (Q : Int32 → gS → Prop) (K : Int32 → Int32 → gS → Prop) (E : gE) (C : gC X E b_MO_leastRun 3 R_MO) (hRm : gRm E = rm_M_SpillQueueModel_leastRun) (r : gR X E b_MO_leastRun (some .int) (gBi (wM ad X) Q)) (hK : ∀ (x1 : Int32) (x2 : Int32) (s : gS), K x1 x2 s → gW X E 0 0 (wM ad X s) [(0, .ref (ad 0)), (1, .int x1), (2, .int x2)] 41 []) : ∀ (n : Nat) (x1 : Int32) (x2 : Int32) (s : gS), wl_M_SpillQueueModel_leastRun_4 Q K n x1 x2 s → gW X E 0 0 (wM ad X s) [(0, .ref (ad 0)), (1, .int x1), (2, .int x2)] 4 [] := by
  intro n
  induction n with
  | zero => intro x1 x2 s h; exact False.elim h
  | succ n ih =>
    intro x1 x2 s h
    have h : (((s.1 12) ≤ x2 → K x1 x2 s) ∧ (¬ (s.1 12) ≤ x2 → ((x1 < 0 → ∀ v3 : Int32, v3 = x2 + 1 → wl_M_SpillQueueModel_leastRun_4 Q K n x2 v3 s) ∧ (¬ x1 < 0 → wp_M_SpillQueueModel_least x2 s (fun r5 s4 => wp_M_SpillQueueModel_least x1 s4 (fun r7 s6 => ((r7 ≤ r5 → ∀ v9 : Int32, v9 = x2 + 1 → wl_M_SpillQueueModel_leastRun_4 Q K n x1 v9 s6) ∧ (¬ r7 ≤ r5 → ∀ v10 : Int32, v10 = x2 + 1 → wl_M_SpillQueueModel_leastRun_4 Q K n x2 v10 s6)))))))) := h
    refine g_iload_n C d_MO_leastRun_4 rfl 2 rfl ?_
    refine g_aload_n C d_MO_leastRun_5 rfl 0 rfl ?_
    refine g_get C (v := .int (s.1 12)) 0 14 iw_MO rfl rfl (by decide) (gt 745 (by decide +kernel) rfl) rfl rfl d_MO_leastRun_6 ?_
    refine g_icmp_ge C 41 d_MO_leastRun_9 (by decide) (fun c1 => ?_) (fun c1 => ?_)
    · have h := h.1 c1
      exact hK x1 x2 s h
    · have h := h.2 c1
      refine g_iload_n C d_MO_leastRun_12 rfl 1 rfl ?_
      refine g_if_lt C 29 d_MO_leastRun_13 (by decide) (fun c2 => ?_) (fun c2 => ?_)
      · have h := h.1 c2
        refine g_iload_n C d_MO_leastRun_29 rfl 2 rfl ?_
        refine g_goto C 34 d_MO_leastRun_30 (by decide) ?_
        refine g_istore_n C (lv2 := [(0, .ref (ad 0)), (1, .int x2), (2, .int x2)]) d_MO_leastRun_34 rfl (by decide) rfl ?_
        obtain ⟨v3, e_v3⟩ : ∃ y : Int32, y = x2 + 1 := ⟨_, rfl⟩
        have h := h v3 e_v3
        refine g_iinc C (v := v3) (lv2 := [(0, .ref (ad 0)), (1, .int x2), (2, .int v3)]) d_MO_leastRun_35 2 rfl (by rw [e_v3]; rfl) (by decide) rfl ?_
        refine g_goto C 4 d_MO_leastRun_38 (by decide) ?_
        exact ih x2 v3 s h
      · have h := h.2 c2
        refine g_aload_n C d_MO_leastRun_16 rfl 0 rfl ?_
        refine g_iload_n C d_MO_leastRun_17 rfl 2 rfl ?_
        refine g_callV C (rest := []) 0 (fun l => m_M_SpillQueueModel_least X ad x2 s _ h l) rfl rfl (gt 940 (by decide +kernel) rfl) cb_MO_least ⟨rfl, rfl⟩ (by rw [hRm]; decide) ⟨Nat.zero_le _, Nat.zero_le _⟩ rfl rfl (Nat.le_of_ble_eq_true rfl) d_MO_leastRun_18 (gki (fun r5 s4 h => ?_))
        refine g_aload_n C d_MO_leastRun_21 rfl 0 rfl ?_
        refine g_iload_n C d_MO_leastRun_22 rfl 1 rfl ?_
        refine g_callV C (rest := [.int r5]) 0 (fun l => m_M_SpillQueueModel_least X ad x1 s4 _ h l) rfl rfl (gt 940 (by decide +kernel) rfl) cb_MO_least ⟨rfl, rfl⟩ (by rw [hRm]; decide) ⟨Nat.zero_le _, Nat.zero_le _⟩ rfl rfl (Nat.le_of_ble_eq_true rfl) d_MO_leastRun_23 (gki (fun r7 s6 h => ?_))
        refine g_icmp_ge C 33 d_MO_leastRun_26 (by decide) (fun c8 => ?_) (fun c8 => ?_)
        · have h := h.1 c8
          refine g_iload_n C d_MO_leastRun_33 rfl 1 rfl ?_
          refine g_istore_n C (lv2 := [(0, .ref (ad 0)), (1, .int x1), (2, .int x2)]) d_MO_leastRun_34 rfl (by decide) rfl ?_
          obtain ⟨v9, e_v9⟩ : ∃ y : Int32, y = x2 + 1 := ⟨_, rfl⟩
          have h := h v9 e_v9
          refine g_iinc C (v := v9) (lv2 := [(0, .ref (ad 0)), (1, .int x1), (2, .int v9)]) d_MO_leastRun_35 2 rfl (by rw [e_v9]; rfl) (by decide) rfl ?_
          refine g_goto C 4 d_MO_leastRun_38 (by decide) ?_
          exact ih x1 v9 s6 h
        · have h := h.2 c8
          refine g_iload_n C d_MO_leastRun_29 rfl 2 rfl ?_
          refine g_goto C 34 d_MO_leastRun_30 (by decide) ?_
          refine g_istore_n C (lv2 := [(0, .ref (ad 0)), (1, .int x2), (2, .int x2)]) d_MO_leastRun_34 rfl (by decide) rfl ?_
          obtain ⟨v10, e_v10⟩ : ∃ y : Int32, y = x2 + 1 := ⟨_, rfl⟩
          have h := h v10 e_v10
          refine g_iinc C (v := v10) (lv2 := [(0, .ref (ad 0)), (1, .int x2), (2, .int v10)]) d_MO_leastRun_35 2 rfl (by rw [e_v10]; rfl) (by decide) rfl ?_
          refine g_goto C 4 d_MO_leastRun_38 (by decide) ?_
          exact ih x2 v10 s6 h
def wp_M_SpillQueueModel_leastRun (s : gS) (Q : Int32 → gS → Prop) : Prop := ∃ n11 : Nat, wl_M_SpillQueueModel_leastRun_4 Q (fun v13 v14 s12 => Q v13 s12)  n11 (-1) 0 s
set_option maxHeartbeats 4000000 in
set_option maxRecDepth 100000 in
theorem w_M_SpillQueueModel_leastRun (X : gX) (ad : Nat → Nat) (s : gS) (Q : Int32 → gS → Prop) (h : wp_M_SpillQueueModel_leastRun  s Q) (E : gE) (C : gC X E b_MO_leastRun 3 R_MO) (hRm : gRm E = rm_M_SpillQueueModel_leastRun) (r : gR X E b_MO_leastRun (some .int) (gBi (wM ad X) Q)) : gW X E 0 0 (wM ad X s) [(0, .ref (ad 0))] 0 [] := by
  have h : ∃ n11 : Nat, wl_M_SpillQueueModel_leastRun_4 Q (fun v13 v14 s12 => Q v13 s12)  n11 (-1) 0 s := h
  refine g_iconst C (-1) d_MO_leastRun_0 (by decide) ?_
  refine g_istore_n C (lv2 := [(0, .ref (ad 0)), (1, .int (-1))]) d_MO_leastRun_1 rfl (by decide) rfl ?_
  refine g_iconst C 0 d_MO_leastRun_2 (by decide) ?_
  refine g_istore_n C (lv2 := [(0, .ref (ad 0)), (1, .int (-1)), (2, .int 0)]) d_MO_leastRun_3 rfl (by decide) rfl ?_
  obtain ⟨n11, h⟩ := h
  refine w_M_SpillQueueModel_leastRun_4 X ad Q (_)  E C hRm r ?_ n11 (-1) 0 s h
  intro v13 v14 s12 h
  refine g_iload_n C d_MO_leastRun_41 rfl 1 rfl ?_
  exact g_iret r rfl d_MO_leastRun_42 (gBi_mk h)
theorem m_M_SpillQueueModel_leastRun (X : gX) (ad : Nat → Nat) (s : gS) (Q : Int32 → gS → Prop) (h : wp_M_SpillQueueModel_leastRun  s Q) (l : Launch) : gM l X y_MO_leastRun b_MO_leastRun 3 (some .int) rm_M_SpillQueueModel_leastRun [.ref (ad 0)] (wM ad X s) (gBi (wM ad X) Q) :=
  gM_of (by decide +kernel) rfl (Nat.le_of_ble_eq_true rfl) rfl (fun E C hRm r => w_M_SpillQueueModel_leastRun X ad  s Q h E C hRm r)
def rm_M_SpillQueueModel_leastInMemory : Room := { frames := 0, cells := 0, slots := 0, locals := 0 }
def wl_M_SpillQueueModel_leastInMemory_4 (Q : Int32 → gS → Prop) (K : Int32 → Int32 → gS → Prop) : Nat → Int32 → Int32 → gS → Prop
  | 0, _, _, _ => False
  | n + 1, x1, x2, s => (((s.1 10) ≤ x2 → K x1 x2 s) ∧ (¬ (s.1 10) ≤ x2 → ((x1 < 0 → vp_in x2 100 ∧ (∀ v4 : Int32, v4 = s.2 1 x2.toNatClampNeg → ∀ v5 : Int32, v5 = x2 + 1 → wl_M_SpillQueueModel_leastInMemory_4 Q K n v4 v5 s)) ∧ (¬ x1 < 0 → vp_in x2 100 ∧ (((x1 ≤ (s.2 1 x2.toNatClampNeg) → ∀ v8 : Int32, v8 = x2 + 1 → wl_M_SpillQueueModel_leastInMemory_4 Q K n x1 v8 s) ∧ (¬ x1 ≤ (s.2 1 x2.toNatClampNeg) → vp_in x2 100 ∧ (∀ v10 : Int32, v10 = s.2 1 x2.toNatClampNeg → ∀ v11 : Int32, v11 = x2 + 1 → wl_M_SpillQueueModel_leastInMemory_4 Q K n v10 v11 s))))))))
set_option maxHeartbeats 4000000 in
set_option maxRecDepth 100000 in
theorem w_M_SpillQueueModel_leastInMemory_4 (X : gX) (ad : Nat → Nat) (Q : Int32 → gS → Prop) (K : Int32 → Int32 → gS → Prop) (E : gE) (C : gC X E b_MO_leastInMemory 3 R_MO) (hRm : gRm E = rm_M_SpillQueueModel_leastInMemory) (r : gR X E b_MO_leastInMemory (some .int) (gBi (wM ad X) Q)) (hK : ∀ (x1 : Int32) (x2 : Int32) (s : gS), K x1 x2 s → gW X E 0 0 (wM ad X s) [(0, .ref (ad 0)), (1, .int x1), (2, .int x2)] 43 []) : ∀ (n : Nat) (x1 : Int32) (x2 : Int32) (s : gS), wl_M_SpillQueueModel_leastInMemory_4 Q K n x1 x2 s → gW X E 0 0 (wM ad X s) [(0, .ref (ad 0)), (1, .int x1), (2, .int x2)] 4 [] := by
  intro n
  induction n with
  | zero => intro x1 x2 s h; exact False.elim h
  | succ n ih =>
    intro x1 x2 s h
    have h : (((s.1 10) ≤ x2 → K x1 x2 s) ∧ (¬ (s.1 10) ≤ x2 → ((x1 < 0 → vp_in x2 100 ∧ (∀ v4 : Int32, v4 = s.2 1 x2.toNatClampNeg → ∀ v5 : Int32, v5 = x2 + 1 → wl_M_SpillQueueModel_leastInMemory_4 Q K n v4 v5 s)) ∧ (¬ x1 < 0 → vp_in x2 100 ∧ (((x1 ≤ (s.2 1 x2.toNatClampNeg) → ∀ v8 : Int32, v8 = x2 + 1 → wl_M_SpillQueueModel_leastInMemory_4 Q K n x1 v8 s) ∧ (¬ x1 ≤ (s.2 1 x2.toNatClampNeg) → vp_in x2 100 ∧ (∀ v10 : Int32, v10 = s.2 1 x2.toNatClampNeg → ∀ v11 : Int32, v11 = x2 + 1 → wl_M_SpillQueueModel_leastInMemory_4 Q K n v10 v11 s)))))))) := h
    refine g_iload_n C d_MO_leastInMemory_4 rfl 2 rfl ?_
    refine g_aload_n C d_MO_leastInMemory_5 rfl 0 rfl ?_
    refine g_get C (v := .int (s.1 10)) 0 11 iw_MO rfl rfl (by decide) (gt 742 (by decide +kernel) rfl) rfl rfl d_MO_leastInMemory_6 ?_
    refine g_icmp_ge C 43 d_MO_leastInMemory_9 (by decide) (fun c1 => ?_) (fun c1 => ?_)
    · have h := h.1 c1
      exact hK x1 x2 s h
    · have h := h.2 c1
      refine g_iload_n C d_MO_leastInMemory_12 rfl 1 rfl ?_
      refine g_if_lt C 26 d_MO_leastInMemory_13 (by decide) (fun c2 => ?_) (fun c2 => ?_)
      · have h := h.1 c2
        refine g_aload_n C d_MO_leastInMemory_26 rfl 0 rfl ?_
        refine g_get C (v := .ref (ad 2)) 0 12 iw_MO rfl rfl (by decide) (gt 743 (by decide +kernel) rfl) rfl rfl d_MO_leastInMemory_27 ?_
        refine g_iload_n C d_MO_leastInMemory_30 rfl 2 rfl ?_
        obtain ⟨i3, h⟩ := h
        refine g_iald C 2 0 rfl rfl i3 d_MO_leastInMemory_31 ?_
        refine g_goto C 36 d_MO_leastInMemory_32 (by decide) ?_
        refine g_topi (fun v4 e_v4 => ?_)
        have h := h v4 e_v4
        refine g_istore_n C (lv2 := [(0, .ref (ad 0)), (1, .int v4), (2, .int x2)]) d_MO_leastInMemory_36 rfl (by decide) rfl ?_
        obtain ⟨v5, e_v5⟩ : ∃ y : Int32, y = x2 + 1 := ⟨_, rfl⟩
        have h := h v5 e_v5
        refine g_iinc C (v := v5) (lv2 := [(0, .ref (ad 0)), (1, .int v4), (2, .int v5)]) d_MO_leastInMemory_37 2 rfl (by rw [e_v5]; rfl) (by decide) rfl ?_
        refine g_goto C 4 d_MO_leastInMemory_40 (by decide) ?_
        exact ih v4 v5 s h
      · have h := h.2 c2
        refine g_aload_n C d_MO_leastInMemory_16 rfl 0 rfl ?_
        refine g_get C (v := .ref (ad 2)) 0 12 iw_MO rfl rfl (by decide) (gt 743 (by decide +kernel) rfl) rfl rfl d_MO_leastInMemory_17 ?_
        refine g_iload_n C d_MO_leastInMemory_20 rfl 2 rfl ?_
        obtain ⟨i6, h⟩ := h
        refine g_iald C 2 0 rfl rfl i6 d_MO_leastInMemory_21 ?_
        refine g_iload_n C d_MO_leastInMemory_22 rfl 1 rfl ?_
        refine g_icmp_ge C 35 d_MO_leastInMemory_23 (by decide) (fun c7 => ?_) (fun c7 => ?_)
        · have h := h.1 c7
          refine g_iload_n C d_MO_leastInMemory_35 rfl 1 rfl ?_
          refine g_istore_n C (lv2 := [(0, .ref (ad 0)), (1, .int x1), (2, .int x2)]) d_MO_leastInMemory_36 rfl (by decide) rfl ?_
          obtain ⟨v8, e_v8⟩ : ∃ y : Int32, y = x2 + 1 := ⟨_, rfl⟩
          have h := h v8 e_v8
          refine g_iinc C (v := v8) (lv2 := [(0, .ref (ad 0)), (1, .int x1), (2, .int v8)]) d_MO_leastInMemory_37 2 rfl (by rw [e_v8]; rfl) (by decide) rfl ?_
          refine g_goto C 4 d_MO_leastInMemory_40 (by decide) ?_
          exact ih x1 v8 s h
        · have h := h.2 c7
          refine g_aload_n C d_MO_leastInMemory_26 rfl 0 rfl ?_
          refine g_get C (v := .ref (ad 2)) 0 12 iw_MO rfl rfl (by decide) (gt 743 (by decide +kernel) rfl) rfl rfl d_MO_leastInMemory_27 ?_
          refine g_iload_n C d_MO_leastInMemory_30 rfl 2 rfl ?_
          obtain ⟨i9, h⟩ := h
          refine g_iald C 2 0 rfl rfl i9 d_MO_leastInMemory_31 ?_
          refine g_goto C 36 d_MO_leastInMemory_32 (by decide) ?_
          refine g_topi (fun v10 e_v10 => ?_)
          have h := h v10 e_v10
          refine g_istore_n C (lv2 := [(0, .ref (ad 0)), (1, .int v10), (2, .int x2)]) d_MO_leastInMemory_36 rfl (by decide) rfl ?_
          obtain ⟨v11, e_v11⟩ : ∃ y : Int32, y = x2 + 1 := ⟨_, rfl⟩
          have h := h v11 e_v11
          refine g_iinc C (v := v11) (lv2 := [(0, .ref (ad 0)), (1, .int v10), (2, .int v11)]) d_MO_leastInMemory_37 2 rfl (by rw [e_v11]; rfl) (by decide) rfl ?_
          refine g_goto C 4 d_MO_leastInMemory_40 (by decide) ?_
          exact ih v10 v11 s h
def wp_M_SpillQueueModel_leastInMemory (s : gS) (Q : Int32 → gS → Prop) : Prop := ∃ n12 : Nat, wl_M_SpillQueueModel_leastInMemory_4 Q (fun v14 v15 s13 => Q v14 s13)  n12 (-1) 0 s
set_option maxHeartbeats 4000000 in
set_option maxRecDepth 100000 in
theorem w_M_SpillQueueModel_leastInMemory (X : gX) (ad : Nat → Nat) (s : gS) (Q : Int32 → gS → Prop) (h : wp_M_SpillQueueModel_leastInMemory  s Q) (E : gE) (C : gC X E b_MO_leastInMemory 3 R_MO) (hRm : gRm E = rm_M_SpillQueueModel_leastInMemory) (r : gR X E b_MO_leastInMemory (some .int) (gBi (wM ad X) Q)) : gW X E 0 0 (wM ad X s) [(0, .ref (ad 0))] 0 [] := by
  have h : ∃ n12 : Nat, wl_M_SpillQueueModel_leastInMemory_4 Q (fun v14 v15 s13 => Q v14 s13)  n12 (-1) 0 s := h
  refine g_iconst C (-1) d_MO_leastInMemory_0 (by decide) ?_
  refine g_istore_n C (lv2 := [(0, .ref (ad 0)), (1, .int (-1))]) d_MO_leastInMemory_1 rfl (by decide) rfl ?_
  refine g_iconst C 0 d_MO_leastInMemory_2 (by decide) ?_
  refine g_istore_n C (lv2 := [(0, .ref (ad 0)), (1, .int (-1)), (2, .int 0)]) d_MO_leastInMemory_3 rfl (by decide) rfl ?_
  obtain ⟨n12, h⟩ := h
  refine w_M_SpillQueueModel_leastInMemory_4 X ad Q (_)  E C hRm r ?_ n12 (-1) 0 s h
  intro v14 v15 s13 h
  refine g_iload_n C d_MO_leastInMemory_43 rfl 1 rfl ?_
  exact g_iret r rfl d_MO_leastInMemory_44 (gBi_mk h)
theorem m_M_SpillQueueModel_leastInMemory (X : gX) (ad : Nat → Nat) (s : gS) (Q : Int32 → gS → Prop) (h : wp_M_SpillQueueModel_leastInMemory  s Q) (l : Launch) : gM l X y_MO_leastInMemory b_MO_leastInMemory 3 (some .int) rm_M_SpillQueueModel_leastInMemory [.ref (ad 0)] (wM ad X s) (gBi (wM ad X) Q) :=
  gM_of (by decide +kernel) rfl (Nat.le_of_ble_eq_true rfl) rfl (fun E C hRm r => w_M_SpillQueueModel_leastInMemory X ad  s Q h E C hRm r)
def rm_M_SpillQueueModel_leastKey : Room := { frames := 3, cells := 0, slots := 0, locals := 65 }
def wp_M_SpillQueueModel_leastKey (s : gS) (Q : Int32 → gS → Prop) : Prop := wp_M_SpillQueueModel_leastRun s (fun r2 s1 => wp_M_SpillQueueModel_leastInMemory s1 (fun r4 s3 => ((0 ≤ r2 → ((r4 < 0 → wp_M_SpillQueueModel_least r2 s3 (fun r8 s7 => Q r8 s7)) ∧ (¬ r4 < 0 → wp_M_SpillQueueModel_least r2 s3 (fun r10 s9 => ((r10 < r4 → wp_M_SpillQueueModel_least r2 s9 (fun r13 s12 => Q r13 s12)) ∧ (¬ r10 < r4 → Q r4 s9)))))) ∧ (¬ 0 ≤ r2 → Q r4 s3))))
set_option maxHeartbeats 4000000 in
set_option maxRecDepth 100000 in
theorem w_M_SpillQueueModel_leastKey (X : gX) (ad : Nat → Nat) (s : gS) (Q : Int32 → gS → Prop) (h : wp_M_SpillQueueModel_leastKey  s Q) (E : gE) (C : gC X E b_MO_leastKey 3 R_MO) (hRm : gRm E = rm_M_SpillQueueModel_leastKey) (r : gR X E b_MO_leastKey (some .int) (gBi (wM ad X) Q)) : gW X E 0 0 (wM ad X s) [(0, .ref (ad 0))] 0 [] := by
  have h : wp_M_SpillQueueModel_leastRun s (fun r2 s1 => wp_M_SpillQueueModel_leastInMemory s1 (fun r4 s3 => ((0 ≤ r2 → ((r4 < 0 → wp_M_SpillQueueModel_least r2 s3 (fun r8 s7 => Q r8 s7)) ∧ (¬ r4 < 0 → wp_M_SpillQueueModel_least r2 s3 (fun r10 s9 => ((r10 < r4 → wp_M_SpillQueueModel_least r2 s9 (fun r13 s12 => Q r13 s12)) ∧ (¬ r10 < r4 → Q r4 s9)))))) ∧ (¬ 0 ≤ r2 → Q r4 s3)))) := h
  refine g_aload_n C d_MO_leastKey_0 rfl 0 rfl ?_
  refine g_callV C (rest := []) 0 (fun l => m_M_SpillQueueModel_leastRun X ad  s _ h l) rfl rfl (gt 936 (by decide +kernel) rfl) cb_MO_leastRun ⟨rfl, rfl⟩ (by rw [hRm]; decide) ⟨Nat.zero_le _, Nat.zero_le _⟩ rfl rfl (Nat.le_of_ble_eq_true rfl) d_MO_leastKey_1 (gki (fun r2 s1 h => ?_))
  refine g_istore_n C (lv2 := [(0, .ref (ad 0)), (1, .int r2)]) d_MO_leastKey_4 rfl (by decide) rfl ?_
  refine g_aload_n C d_MO_leastKey_5 rfl 0 rfl ?_
  refine g_callV C (rest := []) 0 (fun l => m_M_SpillQueueModel_leastInMemory X ad  s1 _ h l) rfl rfl (gt 944 (by decide +kernel) rfl) cb_MO_leastInMemory ⟨rfl, rfl⟩ (by rw [hRm]; decide) ⟨Nat.zero_le _, Nat.zero_le _⟩ rfl rfl (Nat.le_of_ble_eq_true rfl) d_MO_leastKey_6 (gki (fun r4 s3 h => ?_))
  refine g_istore_n C (lv2 := [(0, .ref (ad 0)), (1, .int r2), (2, .int r4)]) d_MO_leastKey_9 rfl (by decide) rfl ?_
  refine g_iload_n C d_MO_leastKey_10 rfl 1 rfl ?_
  refine g_if_ge C 18 d_MO_leastKey_11 (by decide) (fun c5 => ?_) (fun c5 => ?_)
  · have h := h.1 c5
    refine g_iload_n C d_MO_leastKey_18 rfl 2 rfl ?_
    refine g_if_lt C 35 d_MO_leastKey_19 (by decide) (fun c6 => ?_) (fun c6 => ?_)
    · have h := h.1 c6
      refine g_aload_n C d_MO_leastKey_35 rfl 0 rfl ?_
      refine g_iload_n C d_MO_leastKey_36 rfl 1 rfl ?_
      refine g_callV C (rest := []) 0 (fun l => m_M_SpillQueueModel_least X ad r2 s3 _ h l) rfl rfl (gt 940 (by decide +kernel) rfl) cb_MO_least ⟨rfl, rfl⟩ (by rw [hRm]; decide) ⟨Nat.zero_le _, Nat.zero_le _⟩ rfl rfl (Nat.le_of_ble_eq_true rfl) d_MO_leastKey_37 (gki (fun r8 s7 h => ?_))
      exact g_iret r rfl d_MO_leastKey_40 (gBi_mk h)
    · have h := h.2 c6
      refine g_iload_n C d_MO_leastKey_22 rfl 2 rfl ?_
      refine g_aload_n C d_MO_leastKey_23 rfl 0 rfl ?_
      refine g_iload_n C d_MO_leastKey_24 rfl 1 rfl ?_
      refine g_callV C (rest := [.int r4]) 0 (fun l => m_M_SpillQueueModel_least X ad r2 s3 _ h l) rfl rfl (gt 940 (by decide +kernel) rfl) cb_MO_least ⟨rfl, rfl⟩ (by rw [hRm]; decide) ⟨Nat.zero_le _, Nat.zero_le _⟩ rfl rfl (Nat.le_of_ble_eq_true rfl) d_MO_leastKey_25 (gki (fun r10 s9 h => ?_))
      refine g_icmp_gt C 35 d_MO_leastKey_28 (by decide) (fun c11 => ?_) (fun c11 => ?_)
      · have h := h.1 c11
        refine g_aload_n C d_MO_leastKey_35 rfl 0 rfl ?_
        refine g_iload_n C d_MO_leastKey_36 rfl 1 rfl ?_
        refine g_callV C (rest := []) 0 (fun l => m_M_SpillQueueModel_least X ad r2 s9 _ h l) rfl rfl (gt 940 (by decide +kernel) rfl) cb_MO_least ⟨rfl, rfl⟩ (by rw [hRm]; decide) ⟨Nat.zero_le _, Nat.zero_le _⟩ rfl rfl (Nat.le_of_ble_eq_true rfl) d_MO_leastKey_37 (gki (fun r13 s12 h => ?_))
        exact g_iret r rfl d_MO_leastKey_40 (gBi_mk h)
      · have h := h.2 c11
        refine g_iload_n C d_MO_leastKey_31 rfl 2 rfl ?_
        refine g_goto C 40 d_MO_leastKey_32 (by decide) ?_
        exact g_iret r rfl d_MO_leastKey_40 (gBi_mk h)
  · have h := h.2 c5
    refine g_iload_n C d_MO_leastKey_14 rfl 2 rfl ?_
    refine g_goto C 40 d_MO_leastKey_15 (by decide) ?_
    exact g_iret r rfl d_MO_leastKey_40 (gBi_mk h)
theorem m_M_SpillQueueModel_leastKey (X : gX) (ad : Nat → Nat) (s : gS) (Q : Int32 → gS → Prop) (h : wp_M_SpillQueueModel_leastKey  s Q) (l : Launch) : gM l X y_MO_leastKey b_MO_leastKey 3 (some .int) rm_M_SpillQueueModel_leastKey [.ref (ad 0)] (wM ad X s) (gBi (wM ad X) Q) :=
  gM_of (by decide +kernel) rfl (Nat.le_of_ble_eq_true rfl) rfl (fun E C hRm r => w_M_SpillQueueModel_leastKey X ad  s Q h E C hRm r)
def rm_M_SpillQueueModel_min : Room := { frames := 4, cells := 0, slots := 0, locals := 87 }
def wp_M_SpillQueueModel_min (s : gS) (Q : Int32 → gS → Prop) : Prop := (((s.1 8) = 0 → Q 0 (up s.1 0 (1), s.2)) ∧ (¬ (s.1 8) = 0 → wp_M_SpillQueueModel_leastKey (up s.1 0 (0), s.2) (fun r3 s2 => Q r3 s2)))
set_option maxHeartbeats 4000000 in
set_option maxRecDepth 100000 in
theorem w_M_SpillQueueModel_min (X : gX) (ad : Nat → Nat) (s : gS) (Q : Int32 → gS → Prop) (h : wp_M_SpillQueueModel_min  s Q) (E : gE) (C : gC X E b_MO_min 1 R_MO) (hRm : gRm E = rm_M_SpillQueueModel_min) (r : gR X E b_MO_min (some .int) (gBi (wM ad X) Q)) : gW X E 0 0 (wM ad X s) [(0, .ref (ad 0))] 0 [] := by
  have h : (((s.1 8) = 0 → Q 0 (up s.1 0 (1), s.2)) ∧ (¬ (s.1 8) = 0 → wp_M_SpillQueueModel_leastKey (up s.1 0 (0), s.2) (fun r3 s2 => Q r3 s2))) := h
  refine g_aload_n C d_MO_min_0 rfl 0 rfl ?_
  refine g_aload_n C d_MO_min_1 rfl 0 rfl ?_
  refine g_get C (v := .int (s.1 8)) 0 9 iw_MO rfl rfl (by decide) (gt 740 (by decide +kernel) rfl) rfl rfl d_MO_min_2 ?_
  refine g_if_eq C 12 d_MO_min_5 (by decide) (fun c1 => ?_) (fun c1 => ?_)
  · have h := h.1 c1
    refine g_iconst C 1 d_MO_min_12 (by decide) ?_
    refine g_put C (ws2 := wM ad X (up s.1 0 (1), s.2)) 0 0 iw_MO ty_MO tyok_MO nm_MO rfl rfl (by decide) (gt 731 (by decide +kernel) rfl) rfl rfl rfl rfl (Nat.le_of_ble_eq_true rfl) rfl d_MO_min_13 ?_
    refine g_aload_n C d_MO_min_16 rfl 0 rfl ?_
    refine g_get C (v := .int 1) 0 0 iw_MO rfl rfl (by decide) (gt 731 (by decide +kernel) rfl) rfl rfl d_MO_min_17 ?_
    refine g_if_le C 27 d_MO_min_20 (by decide) (fun c9 => absurd c9 (by decide)) (fun _ => ?_)
    refine g_iconst C 0 d_MO_min_23 (by decide) ?_
    refine g_goto C 31 d_MO_min_24 (by decide) ?_
    exact g_iret r rfl d_MO_min_31 (gBi_mk h)
  · have h := h.2 c1
    refine g_iconst C 0 d_MO_min_8 (by decide) ?_
    refine g_goto C 13 d_MO_min_9 (by decide) ?_
    refine g_put C (ws2 := wM ad X (up s.1 0 (0), s.2)) 0 0 iw_MO ty_MO tyok_MO nm_MO rfl rfl (by decide) (gt 731 (by decide +kernel) rfl) rfl rfl rfl rfl (Nat.le_of_ble_eq_true rfl) rfl d_MO_min_13 ?_
    refine g_aload_n C d_MO_min_16 rfl 0 rfl ?_
    refine g_get C (v := .int 0) 0 0 iw_MO rfl rfl (by decide) (gt 731 (by decide +kernel) rfl) rfl rfl d_MO_min_17 ?_
    refine g_if_le C 27 d_MO_min_20 (by decide) (fun _ => ?_) (fun c9 => absurd c9 (by decide))
    refine g_aload_n C d_MO_min_27 rfl 0 rfl ?_
    refine g_callV C (rest := []) 0 (fun l => m_M_SpillQueueModel_leastKey X ad  (up s.1 0 (0), s.2) _ h l) rfl rfl (gt 932 (by decide +kernel) rfl) cb_MO_leastKey ⟨rfl, rfl⟩ (by rw [hRm]; decide) ⟨Nat.zero_le _, Nat.zero_le _⟩ rfl rfl (Nat.le_of_ble_eq_true rfl) d_MO_min_28 (gki (fun r3 s2 h => ?_))
    exact g_iret r rfl d_MO_min_31 (gBi_mk h)
theorem m_M_SpillQueueModel_min (X : gX) (ad : Nat → Nat) (s : gS) (Q : Int32 → gS → Prop) (h : wp_M_SpillQueueModel_min  s Q) (l : Launch) : gM l X y_MO_min b_MO_min 1 (some .int) rm_M_SpillQueueModel_min [.ref (ad 0)] (wM ad X s) (gBi (wM ad X) Q) :=
  gM_of (by decide +kernel) rfl (Nat.le_of_ble_eq_true rfl) rfl (fun E C hRm r => w_M_SpillQueueModel_min X ad  s Q h E C hRm r)
def rm_M_SpillQueueModel_take : Room := { frames := 4, cells := 0, slots := 0, locals := 87 }
def wp_M_SpillQueueModel_take (s : gS) (Q : Int32 → gS → Prop) : Prop := (((s.1 8) = 0 → Q 0 (up s.1 0 (1), s.2)) ∧ (¬ (s.1 8) = 0 → wp_M_SpillQueueModel_leastKey (up s.1 0 (0), s.2) (fun r3 s2 => (((s2.1 10) ≤ 0 → wp_M_SpillQueueModel_leastRun s2 (fun r6 s5 => ((0 ≤ r6 → vp_in r6 16 ∧ (∀ v9 : Int32, v9 = (s5.2 4 r6.toNatClampNeg) - 1 → vp_in r6 16 ∧ (vp_in r6 16 ∧ (∀ v12 : Int32, v12 = (s5.2 3 r6.toNatClampNeg) + 1 → vp_in r6 16 ∧ (vp_in r6 16 ∧ (((¬ ((upd (s5.2 4) r6.toNatClampNeg v9) r6.toNatClampNeg) = 0 → vp_in r6 16 ∧ (wp_M_SpillQueueModel_room (s5.1, ua (ua s5.2 4 (upd (s5.2 4) r6.toNatClampNeg v9)) 3 (upd (s5.2 3) r6.toNatClampNeg v12)) (fun r18 s17 => ((¬ ((upd (s5.2 3) r6.toNatClampNeg v12) r6.toNatClampNeg) = r18 → Q r3 s17) ∧ (((upd (s5.2 3) r6.toNatClampNeg v12) r6.toNatClampNeg) = r18 → vp_in r6 16 ∧ (wp_M_SpillQueueModel_at (s17.2 2 r6.toNatClampNeg) 1 s17 (fun r22 s21 => vp_in r6 16 ∧ (vp_in r6 16 ∧ (Q r3 (s21.1, ua (ua s21.2 2 (upd (s21.2 2) r6.toNatClampNeg r22)) 3 (upd (s21.2 3) r6.toNatClampNeg 0))))))))))) ∧ (((upd (s5.2 4) r6.toNatClampNeg v9) r6.toNatClampNeg) = 0 → wp_M_SpillQueueModel_dropRun r6 (s5.1, ua (ua s5.2 4 (upd (s5.2 4) r6.toNatClampNeg v9)) 3 (upd (s5.2 3) r6.toNatClampNeg v12)) (fun s25 => Q r3 s25))))))))) ∧ (¬ 0 ≤ r6 → Q r3 s5)))) ∧ (¬ (s2.1 10) ≤ 0 → wp_M_SpillQueueModel_leastInMemory s2 (fun r28 s27 => ((¬ r28 = r3 → wp_M_SpillQueueModel_leastRun s27 (fun r31 s30 => ((0 ≤ r31 → vp_in r31 16 ∧ (∀ v34 : Int32, v34 = (s30.2 4 r31.toNatClampNeg) - 1 → vp_in r31 16 ∧ (vp_in r31 16 ∧ (∀ v37 : Int32, v37 = (s30.2 3 r31.toNatClampNeg) + 1 → vp_in r31 16 ∧ (vp_in r31 16 ∧ (((¬ ((upd (s30.2 4) r31.toNatClampNeg v34) r31.toNatClampNeg) = 0 → vp_in r31 16 ∧ (wp_M_SpillQueueModel_room (s30.1, ua (ua s30.2 4 (upd (s30.2 4) r31.toNatClampNeg v34)) 3 (upd (s30.2 3) r31.toNatClampNeg v37)) (fun r43 s42 => ((¬ ((upd (s30.2 3) r31.toNatClampNeg v37) r31.toNatClampNeg) = r43 → Q r3 s42) ∧ (((upd (s30.2 3) r31.toNatClampNeg v37) r31.toNatClampNeg) = r43 → vp_in r31 16 ∧ (wp_M_SpillQueueModel_at (s42.2 2 r31.toNatClampNeg) 1 s42 (fun r47 s46 => vp_in r31 16 ∧ (vp_in r31 16 ∧ (Q r3 (s46.1, ua (ua s46.2 2 (upd (s46.2 2) r31.toNatClampNeg r47)) 3 (upd (s46.2 3) r31.toNatClampNeg 0))))))))))) ∧ (((upd (s30.2 4) r31.toNatClampNeg v34) r31.toNatClampNeg) = 0 → wp_M_SpillQueueModel_dropRun r31 (s30.1, ua (ua s30.2 4 (upd (s30.2 4) r31.toNatClampNeg v34)) 3 (upd (s30.2 3) r31.toNatClampNeg v37)) (fun s50 => Q r3 s50))))))))) ∧ (¬ 0 ≤ r31 → Q r3 s30)))) ∧ (r28 = r3 → wp_M_SpillQueueModel_takeFromMemory s27 (fun r53 s52 => Q r53 s52)))))))))
set_option maxHeartbeats 4000000 in
set_option maxRecDepth 100000 in
theorem w_M_SpillQueueModel_take (X : gX) (ad : Nat → Nat) (s : gS) (Q : Int32 → gS → Prop) (h : wp_M_SpillQueueModel_take  s Q) (E : gE) (C : gC X E b_MO_take 3 R_MO) (hRm : gRm E = rm_M_SpillQueueModel_take) (r : gR X E b_MO_take (some .int) (gBi (wM ad X) Q)) : gW X E 0 0 (wM ad X s) [(0, .ref (ad 0))] 0 [] := by
  have h : (((s.1 8) = 0 → Q 0 (up s.1 0 (1), s.2)) ∧ (¬ (s.1 8) = 0 → wp_M_SpillQueueModel_leastKey (up s.1 0 (0), s.2) (fun r3 s2 => (((s2.1 10) ≤ 0 → wp_M_SpillQueueModel_leastRun s2 (fun r6 s5 => ((0 ≤ r6 → vp_in r6 16 ∧ (∀ v9 : Int32, v9 = (s5.2 4 r6.toNatClampNeg) - 1 → vp_in r6 16 ∧ (vp_in r6 16 ∧ (∀ v12 : Int32, v12 = (s5.2 3 r6.toNatClampNeg) + 1 → vp_in r6 16 ∧ (vp_in r6 16 ∧ (((¬ ((upd (s5.2 4) r6.toNatClampNeg v9) r6.toNatClampNeg) = 0 → vp_in r6 16 ∧ (wp_M_SpillQueueModel_room (s5.1, ua (ua s5.2 4 (upd (s5.2 4) r6.toNatClampNeg v9)) 3 (upd (s5.2 3) r6.toNatClampNeg v12)) (fun r18 s17 => ((¬ ((upd (s5.2 3) r6.toNatClampNeg v12) r6.toNatClampNeg) = r18 → Q r3 s17) ∧ (((upd (s5.2 3) r6.toNatClampNeg v12) r6.toNatClampNeg) = r18 → vp_in r6 16 ∧ (wp_M_SpillQueueModel_at (s17.2 2 r6.toNatClampNeg) 1 s17 (fun r22 s21 => vp_in r6 16 ∧ (vp_in r6 16 ∧ (Q r3 (s21.1, ua (ua s21.2 2 (upd (s21.2 2) r6.toNatClampNeg r22)) 3 (upd (s21.2 3) r6.toNatClampNeg 0))))))))))) ∧ (((upd (s5.2 4) r6.toNatClampNeg v9) r6.toNatClampNeg) = 0 → wp_M_SpillQueueModel_dropRun r6 (s5.1, ua (ua s5.2 4 (upd (s5.2 4) r6.toNatClampNeg v9)) 3 (upd (s5.2 3) r6.toNatClampNeg v12)) (fun s25 => Q r3 s25))))))))) ∧ (¬ 0 ≤ r6 → Q r3 s5)))) ∧ (¬ (s2.1 10) ≤ 0 → wp_M_SpillQueueModel_leastInMemory s2 (fun r28 s27 => ((¬ r28 = r3 → wp_M_SpillQueueModel_leastRun s27 (fun r31 s30 => ((0 ≤ r31 → vp_in r31 16 ∧ (∀ v34 : Int32, v34 = (s30.2 4 r31.toNatClampNeg) - 1 → vp_in r31 16 ∧ (vp_in r31 16 ∧ (∀ v37 : Int32, v37 = (s30.2 3 r31.toNatClampNeg) + 1 → vp_in r31 16 ∧ (vp_in r31 16 ∧ (((¬ ((upd (s30.2 4) r31.toNatClampNeg v34) r31.toNatClampNeg) = 0 → vp_in r31 16 ∧ (wp_M_SpillQueueModel_room (s30.1, ua (ua s30.2 4 (upd (s30.2 4) r31.toNatClampNeg v34)) 3 (upd (s30.2 3) r31.toNatClampNeg v37)) (fun r43 s42 => ((¬ ((upd (s30.2 3) r31.toNatClampNeg v37) r31.toNatClampNeg) = r43 → Q r3 s42) ∧ (((upd (s30.2 3) r31.toNatClampNeg v37) r31.toNatClampNeg) = r43 → vp_in r31 16 ∧ (wp_M_SpillQueueModel_at (s42.2 2 r31.toNatClampNeg) 1 s42 (fun r47 s46 => vp_in r31 16 ∧ (vp_in r31 16 ∧ (Q r3 (s46.1, ua (ua s46.2 2 (upd (s46.2 2) r31.toNatClampNeg r47)) 3 (upd (s46.2 3) r31.toNatClampNeg 0))))))))))) ∧ (((upd (s30.2 4) r31.toNatClampNeg v34) r31.toNatClampNeg) = 0 → wp_M_SpillQueueModel_dropRun r31 (s30.1, ua (ua s30.2 4 (upd (s30.2 4) r31.toNatClampNeg v34)) 3 (upd (s30.2 3) r31.toNatClampNeg v37)) (fun s50 => Q r3 s50))))))))) ∧ (¬ 0 ≤ r31 → Q r3 s30)))) ∧ (r28 = r3 → wp_M_SpillQueueModel_takeFromMemory s27 (fun r53 s52 => Q r53 s52))))))))) := h
  refine g_aload_n C d_MO_take_0 rfl 0 rfl ?_
  refine g_aload_n C d_MO_take_1 rfl 0 rfl ?_
  refine g_get C (v := .int (s.1 8)) 0 9 iw_MO rfl rfl (by decide) (gt 740 (by decide +kernel) rfl) rfl rfl d_MO_take_2 ?_
  refine g_if_eq C 12 d_MO_take_5 (by decide) (fun c1 => ?_) (fun c1 => ?_)
  · have h := h.1 c1
    refine g_iconst C 1 d_MO_take_12 (by decide) ?_
    refine g_put C (ws2 := wM ad X (up s.1 0 (1), s.2)) 0 0 iw_MO ty_MO tyok_MO nm_MO rfl rfl (by decide) (gt 731 (by decide +kernel) rfl) rfl rfl rfl rfl (Nat.le_of_ble_eq_true rfl) rfl d_MO_take_13 ?_
    refine g_aload_n C d_MO_take_16 rfl 0 rfl ?_
    refine g_get C (v := .int 1) 0 0 iw_MO rfl rfl (by decide) (gt 731 (by decide +kernel) rfl) rfl rfl d_MO_take_17 ?_
    refine g_if_le C 25 d_MO_take_20 (by decide) (fun c9 => absurd c9 (by decide)) (fun _ => ?_)
    refine g_iconst C 0 d_MO_take_23 (by decide) ?_
    exact g_iret r rfl d_MO_take_24 (gBi_mk h)
  · have h := h.2 c1
    refine g_iconst C 0 d_MO_take_8 (by decide) ?_
    refine g_goto C 13 d_MO_take_9 (by decide) ?_
    refine g_put C (ws2 := wM ad X (up s.1 0 (0), s.2)) 0 0 iw_MO ty_MO tyok_MO nm_MO rfl rfl (by decide) (gt 731 (by decide +kernel) rfl) rfl rfl rfl rfl (Nat.le_of_ble_eq_true rfl) rfl d_MO_take_13 ?_
    refine g_aload_n C d_MO_take_16 rfl 0 rfl ?_
    refine g_get C (v := .int 0) 0 0 iw_MO rfl rfl (by decide) (gt 731 (by decide +kernel) rfl) rfl rfl d_MO_take_17 ?_
    refine g_if_le C 25 d_MO_take_20 (by decide) (fun _ => ?_) (fun c9 => absurd c9 (by decide))
    refine g_aload_n C d_MO_take_25 rfl 0 rfl ?_
    refine g_callV C (rest := []) 0 (fun l => m_M_SpillQueueModel_leastKey X ad  (up s.1 0 (0), s.2) _ h l) rfl rfl (gt 932 (by decide +kernel) rfl) cb_MO_leastKey ⟨rfl, rfl⟩ (by rw [hRm]; decide) ⟨Nat.zero_le _, Nat.zero_le _⟩ rfl rfl (Nat.le_of_ble_eq_true rfl) d_MO_take_26 (gki (fun r3 s2 h => ?_))
    refine g_istore_n C (lv2 := [(0, .ref (ad 0)), (1, .int r3)]) d_MO_take_29 rfl (by decide) rfl ?_
    refine g_aload_n C d_MO_take_30 rfl 0 rfl ?_
    refine g_get C (v := .int (s2.1 10)) 0 11 iw_MO rfl rfl (by decide) (gt 742 (by decide +kernel) rfl) rfl rfl d_MO_take_31 ?_
    refine g_if_le C 50 d_MO_take_34 (by decide) (fun c4 => ?_) (fun c4 => ?_)
    · have h := h.1 c4
      refine g_aload_n C d_MO_take_50 rfl 0 rfl ?_
      refine g_callV C (rest := []) 0 (fun l => m_M_SpillQueueModel_leastRun X ad  s2 _ h l) rfl rfl (gt 936 (by decide +kernel) rfl) cb_MO_leastRun ⟨rfl, rfl⟩ (by rw [hRm]; decide) ⟨Nat.zero_le _, Nat.zero_le _⟩ rfl rfl (Nat.le_of_ble_eq_true rfl) d_MO_take_51 (gki (fun r6 s5 h => ?_))
      refine g_istore_n C (lv2 := [(0, .ref (ad 0)), (1, .int r3), (2, .int r6)]) d_MO_take_54 rfl (by decide) rfl ?_
      refine g_iload_n C d_MO_take_55 rfl 2 rfl ?_
      refine g_if_ge C 61 d_MO_take_56 (by decide) (fun c7 => ?_) (fun c7 => ?_)
      · have h := h.1 c7
        refine g_aload_n C d_MO_take_61 rfl 0 rfl ?_
        refine g_get C (v := .ref (ad 5)) 0 17 iw_MO rfl rfl (by decide) (gt 748 (by decide +kernel) rfl) rfl rfl d_MO_take_62 ?_
        refine g_iload_n C d_MO_take_65 rfl 2 rfl ?_
        refine g_dup2 C rfl rfl d_MO_take_66 ?_
        obtain ⟨i8, h⟩ := h
        refine g_iald C 5 0 rfl rfl i8 d_MO_take_67 ?_
        refine g_iconst C 1 d_MO_take_68 (by decide) ?_
        refine g_isub C d_MO_take_69 ?_
        refine g_topi (fun v9 e_v9 => ?_)
        have h := h v9 e_v9
        obtain ⟨i10, h⟩ := h
        refine g_iast C 5 0 (ws2 := wM ad X (s5.1, ua s5.2 4 (upd (s5.2 4) r6.toNatClampNeg v9))) rfl rfl i10 rfl d_MO_take_70 ?_
        refine g_aload_n C d_MO_take_71 rfl 0 rfl ?_
        refine g_get C (v := .ref (ad 4)) 0 16 iw_MO rfl rfl (by decide) (gt 747 (by decide +kernel) rfl) rfl rfl d_MO_take_72 ?_
        refine g_iload_n C d_MO_take_75 rfl 2 rfl ?_
        refine g_dup2 C rfl rfl d_MO_take_76 ?_
        obtain ⟨i11, h⟩ := h
        refine g_iald C 4 0 rfl rfl i11 d_MO_take_77 ?_
        refine g_iconst C 1 d_MO_take_78 (by decide) ?_
        refine g_iadd C d_MO_take_79 ?_
        refine g_topi (fun v12 e_v12 => ?_)
        have h := h v12 e_v12
        obtain ⟨i13, h⟩ := h
        refine g_iast C 4 0 (ws2 := wM ad X (s5.1, ua (ua s5.2 4 (upd (s5.2 4) r6.toNatClampNeg v9)) 3 (upd (s5.2 3) r6.toNatClampNeg v12))) rfl rfl i13 rfl d_MO_take_80 ?_
        refine g_aload_n C d_MO_take_81 rfl 0 rfl ?_
        refine g_get C (v := .ref (ad 5)) 0 17 iw_MO rfl rfl (by decide) (gt 748 (by decide +kernel) rfl) rfl rfl d_MO_take_82 ?_
        refine g_iload_n C d_MO_take_85 rfl 2 rfl ?_
        obtain ⟨i14, h⟩ := h
        refine g_iald C 5 0 rfl rfl i14 d_MO_take_86 ?_
        refine g_if_ne C 98 d_MO_take_87 (by decide) (fun c15 => ?_) (fun c15 => ?_)
        · have h := h.1 c15
          refine g_aload_n C d_MO_take_98 rfl 0 rfl ?_
          refine g_get C (v := .ref (ad 4)) 0 16 iw_MO rfl rfl (by decide) (gt 747 (by decide +kernel) rfl) rfl rfl d_MO_take_99 ?_
          refine g_iload_n C d_MO_take_102 rfl 2 rfl ?_
          obtain ⟨i16, h⟩ := h
          refine g_iald C 4 0 rfl rfl i16 d_MO_take_103 ?_
          refine g_aload_n C d_MO_take_104 rfl 0 rfl ?_
          refine g_callV C (rest := [.int ((upd (s5.2 3) r6.toNatClampNeg v12) r6.toNatClampNeg)]) 0 (fun l => m_M_SpillQueueModel_room X ad  (s5.1, ua (ua s5.2 4 (upd (s5.2 4) r6.toNatClampNeg v9)) 3 (upd (s5.2 3) r6.toNatClampNeg v12)) _ h l) rfl rfl (gt 852 (by decide +kernel) rfl) cb_MO_room ⟨rfl, rfl⟩ (by rw [hRm]; decide) ⟨Nat.zero_le _, Nat.zero_le _⟩ rfl rfl (Nat.le_of_ble_eq_true rfl) d_MO_take_105 (gki (fun r18 s17 h => ?_))
          refine g_icmp_ne C 135 d_MO_take_108 (by decide) (fun c19 => ?_) (fun c19 => ?_)
          · have h := h.1 c19
            refine g_iload_n C d_MO_take_135 rfl 1 rfl ?_
            exact g_iret r rfl d_MO_take_136 (gBi_mk h)
          · have h := h.2 c19
            refine g_aload_n C d_MO_take_111 rfl 0 rfl ?_
            refine g_get C (v := .ref (ad 3)) 0 15 iw_MO rfl rfl (by decide) (gt 746 (by decide +kernel) rfl) rfl rfl d_MO_take_112 ?_
            refine g_iload_n C d_MO_take_115 rfl 2 rfl ?_
            refine g_aload_n C d_MO_take_116 rfl 0 rfl ?_
            refine g_aload_n C d_MO_take_117 rfl 0 rfl ?_
            refine g_get C (v := .ref (ad 3)) 0 15 iw_MO rfl rfl (by decide) (gt 746 (by decide +kernel) rfl) rfl rfl d_MO_take_118 ?_
            refine g_iload_n C d_MO_take_121 rfl 2 rfl ?_
            obtain ⟨i20, h⟩ := h
            refine g_iald C 3 0 rfl rfl i20 d_MO_take_122 ?_
            refine g_iconst C 1 d_MO_take_123 (by decide) ?_
            refine g_callV C (rest := [.int r6, .ref (ad 3)]) 0 (fun l => m_M_SpillQueueModel_at X ad (s17.2 2 r6.toNatClampNeg) 1 s17 _ h l) rfl rfl (gt 840 (by decide +kernel) rfl) cb_MO_at ⟨rfl, rfl⟩ (by rw [hRm]; decide) ⟨Nat.zero_le _, Nat.zero_le _⟩ rfl rfl (Nat.le_of_ble_eq_true rfl) d_MO_take_124 (gki (fun r22 s21 h => ?_))
            obtain ⟨i23, h⟩ := h
            refine g_iast C 3 0 (ws2 := wM ad X (s21.1, ua s21.2 2 (upd (s21.2 2) r6.toNatClampNeg r22))) rfl rfl i23 rfl d_MO_take_127 ?_
            refine g_aload_n C d_MO_take_128 rfl 0 rfl ?_
            refine g_get C (v := .ref (ad 4)) 0 16 iw_MO rfl rfl (by decide) (gt 747 (by decide +kernel) rfl) rfl rfl d_MO_take_129 ?_
            refine g_iload_n C d_MO_take_132 rfl 2 rfl ?_
            refine g_iconst C 0 d_MO_take_133 (by decide) ?_
            obtain ⟨i24, h⟩ := h
            refine g_iast C 4 0 (ws2 := wM ad X (s21.1, ua (ua s21.2 2 (upd (s21.2 2) r6.toNatClampNeg r22)) 3 (upd (s21.2 3) r6.toNatClampNeg 0))) rfl rfl i24 rfl d_MO_take_134 ?_
            refine g_iload_n C d_MO_take_135 rfl 1 rfl ?_
            exact g_iret r rfl d_MO_take_136 (gBi_mk h)
        · have h := h.2 c15
          refine g_aload_n C d_MO_take_90 rfl 0 rfl ?_
          refine g_iload_n C d_MO_take_91 rfl 2 rfl ?_
          refine g_callV C (rest := []) 0 (fun l => m_M_SpillQueueModel_dropRun X ad r6 (s5.1, ua (ua s5.2 4 (upd (s5.2 4) r6.toNatClampNeg v9)) 3 (upd (s5.2 3) r6.toNatClampNeg v12)) _ h l) rfl rfl (gt 904 (by decide +kernel) rfl) cb_MO_dropRun ⟨rfl, rfl⟩ (by rw [hRm]; decide) ⟨Nat.zero_le _, Nat.zero_le _⟩ rfl rfl (Nat.le_of_ble_eq_true rfl) d_MO_take_92 (gkv (fun s25 h => ?_))
          refine g_goto C 135 d_MO_take_95 (by decide) ?_
          refine g_iload_n C d_MO_take_135 rfl 1 rfl ?_
          exact g_iret r rfl d_MO_take_136 (gBi_mk h)
      · have h := h.2 c7
        refine g_iload_n C d_MO_take_59 rfl 1 rfl ?_
        exact g_iret r rfl d_MO_take_60 (gBi_mk h)
    · have h := h.2 c4
      refine g_aload_n C d_MO_take_37 rfl 0 rfl ?_
      refine g_callV C (rest := []) 0 (fun l => m_M_SpillQueueModel_leastInMemory X ad  s2 _ h l) rfl rfl (gt 944 (by decide +kernel) rfl) cb_MO_leastInMemory ⟨rfl, rfl⟩ (by rw [hRm]; decide) ⟨Nat.zero_le _, Nat.zero_le _⟩ rfl rfl (Nat.le_of_ble_eq_true rfl) d_MO_take_38 (gki (fun r28 s27 h => ?_))
      refine g_iload_n C d_MO_take_41 rfl 1 rfl ?_
      refine g_icmp_ne C 50 d_MO_take_42 (by decide) (fun c29 => ?_) (fun c29 => ?_)
      · have h := h.1 c29
        refine g_aload_n C d_MO_take_50 rfl 0 rfl ?_
        refine g_callV C (rest := []) 0 (fun l => m_M_SpillQueueModel_leastRun X ad  s27 _ h l) rfl rfl (gt 936 (by decide +kernel) rfl) cb_MO_leastRun ⟨rfl, rfl⟩ (by rw [hRm]; decide) ⟨Nat.zero_le _, Nat.zero_le _⟩ rfl rfl (Nat.le_of_ble_eq_true rfl) d_MO_take_51 (gki (fun r31 s30 h => ?_))
        refine g_istore_n C (lv2 := [(0, .ref (ad 0)), (1, .int r3), (2, .int r31)]) d_MO_take_54 rfl (by decide) rfl ?_
        refine g_iload_n C d_MO_take_55 rfl 2 rfl ?_
        refine g_if_ge C 61 d_MO_take_56 (by decide) (fun c32 => ?_) (fun c32 => ?_)
        · have h := h.1 c32
          refine g_aload_n C d_MO_take_61 rfl 0 rfl ?_
          refine g_get C (v := .ref (ad 5)) 0 17 iw_MO rfl rfl (by decide) (gt 748 (by decide +kernel) rfl) rfl rfl d_MO_take_62 ?_
          refine g_iload_n C d_MO_take_65 rfl 2 rfl ?_
          refine g_dup2 C rfl rfl d_MO_take_66 ?_
          obtain ⟨i33, h⟩ := h
          refine g_iald C 5 0 rfl rfl i33 d_MO_take_67 ?_
          refine g_iconst C 1 d_MO_take_68 (by decide) ?_
          refine g_isub C d_MO_take_69 ?_
          refine g_topi (fun v34 e_v34 => ?_)
          have h := h v34 e_v34
          obtain ⟨i35, h⟩ := h
          refine g_iast C 5 0 (ws2 := wM ad X (s30.1, ua s30.2 4 (upd (s30.2 4) r31.toNatClampNeg v34))) rfl rfl i35 rfl d_MO_take_70 ?_
          refine g_aload_n C d_MO_take_71 rfl 0 rfl ?_
          refine g_get C (v := .ref (ad 4)) 0 16 iw_MO rfl rfl (by decide) (gt 747 (by decide +kernel) rfl) rfl rfl d_MO_take_72 ?_
          refine g_iload_n C d_MO_take_75 rfl 2 rfl ?_
          refine g_dup2 C rfl rfl d_MO_take_76 ?_
          obtain ⟨i36, h⟩ := h
          refine g_iald C 4 0 rfl rfl i36 d_MO_take_77 ?_
          refine g_iconst C 1 d_MO_take_78 (by decide) ?_
          refine g_iadd C d_MO_take_79 ?_
          refine g_topi (fun v37 e_v37 => ?_)
          have h := h v37 e_v37
          obtain ⟨i38, h⟩ := h
          refine g_iast C 4 0 (ws2 := wM ad X (s30.1, ua (ua s30.2 4 (upd (s30.2 4) r31.toNatClampNeg v34)) 3 (upd (s30.2 3) r31.toNatClampNeg v37))) rfl rfl i38 rfl d_MO_take_80 ?_
          refine g_aload_n C d_MO_take_81 rfl 0 rfl ?_
          refine g_get C (v := .ref (ad 5)) 0 17 iw_MO rfl rfl (by decide) (gt 748 (by decide +kernel) rfl) rfl rfl d_MO_take_82 ?_
          refine g_iload_n C d_MO_take_85 rfl 2 rfl ?_
          obtain ⟨i39, h⟩ := h
          refine g_iald C 5 0 rfl rfl i39 d_MO_take_86 ?_
          refine g_if_ne C 98 d_MO_take_87 (by decide) (fun c40 => ?_) (fun c40 => ?_)
          · have h := h.1 c40
            refine g_aload_n C d_MO_take_98 rfl 0 rfl ?_
            refine g_get C (v := .ref (ad 4)) 0 16 iw_MO rfl rfl (by decide) (gt 747 (by decide +kernel) rfl) rfl rfl d_MO_take_99 ?_
            refine g_iload_n C d_MO_take_102 rfl 2 rfl ?_
            obtain ⟨i41, h⟩ := h
            refine g_iald C 4 0 rfl rfl i41 d_MO_take_103 ?_
            refine g_aload_n C d_MO_take_104 rfl 0 rfl ?_
            refine g_callV C (rest := [.int ((upd (s30.2 3) r31.toNatClampNeg v37) r31.toNatClampNeg)]) 0 (fun l => m_M_SpillQueueModel_room X ad  (s30.1, ua (ua s30.2 4 (upd (s30.2 4) r31.toNatClampNeg v34)) 3 (upd (s30.2 3) r31.toNatClampNeg v37)) _ h l) rfl rfl (gt 852 (by decide +kernel) rfl) cb_MO_room ⟨rfl, rfl⟩ (by rw [hRm]; decide) ⟨Nat.zero_le _, Nat.zero_le _⟩ rfl rfl (Nat.le_of_ble_eq_true rfl) d_MO_take_105 (gki (fun r43 s42 h => ?_))
            refine g_icmp_ne C 135 d_MO_take_108 (by decide) (fun c44 => ?_) (fun c44 => ?_)
            · have h := h.1 c44
              refine g_iload_n C d_MO_take_135 rfl 1 rfl ?_
              exact g_iret r rfl d_MO_take_136 (gBi_mk h)
            · have h := h.2 c44
              refine g_aload_n C d_MO_take_111 rfl 0 rfl ?_
              refine g_get C (v := .ref (ad 3)) 0 15 iw_MO rfl rfl (by decide) (gt 746 (by decide +kernel) rfl) rfl rfl d_MO_take_112 ?_
              refine g_iload_n C d_MO_take_115 rfl 2 rfl ?_
              refine g_aload_n C d_MO_take_116 rfl 0 rfl ?_
              refine g_aload_n C d_MO_take_117 rfl 0 rfl ?_
              refine g_get C (v := .ref (ad 3)) 0 15 iw_MO rfl rfl (by decide) (gt 746 (by decide +kernel) rfl) rfl rfl d_MO_take_118 ?_
              refine g_iload_n C d_MO_take_121 rfl 2 rfl ?_
              obtain ⟨i45, h⟩ := h
              refine g_iald C 3 0 rfl rfl i45 d_MO_take_122 ?_
              refine g_iconst C 1 d_MO_take_123 (by decide) ?_
              refine g_callV C (rest := [.int r31, .ref (ad 3)]) 0 (fun l => m_M_SpillQueueModel_at X ad (s42.2 2 r31.toNatClampNeg) 1 s42 _ h l) rfl rfl (gt 840 (by decide +kernel) rfl) cb_MO_at ⟨rfl, rfl⟩ (by rw [hRm]; decide) ⟨Nat.zero_le _, Nat.zero_le _⟩ rfl rfl (Nat.le_of_ble_eq_true rfl) d_MO_take_124 (gki (fun r47 s46 h => ?_))
              obtain ⟨i48, h⟩ := h
              refine g_iast C 3 0 (ws2 := wM ad X (s46.1, ua s46.2 2 (upd (s46.2 2) r31.toNatClampNeg r47))) rfl rfl i48 rfl d_MO_take_127 ?_
              refine g_aload_n C d_MO_take_128 rfl 0 rfl ?_
              refine g_get C (v := .ref (ad 4)) 0 16 iw_MO rfl rfl (by decide) (gt 747 (by decide +kernel) rfl) rfl rfl d_MO_take_129 ?_
              refine g_iload_n C d_MO_take_132 rfl 2 rfl ?_
              refine g_iconst C 0 d_MO_take_133 (by decide) ?_
              obtain ⟨i49, h⟩ := h
              refine g_iast C 4 0 (ws2 := wM ad X (s46.1, ua (ua s46.2 2 (upd (s46.2 2) r31.toNatClampNeg r47)) 3 (upd (s46.2 3) r31.toNatClampNeg 0))) rfl rfl i49 rfl d_MO_take_134 ?_
              refine g_iload_n C d_MO_take_135 rfl 1 rfl ?_
              exact g_iret r rfl d_MO_take_136 (gBi_mk h)
          · have h := h.2 c40
            refine g_aload_n C d_MO_take_90 rfl 0 rfl ?_
            refine g_iload_n C d_MO_take_91 rfl 2 rfl ?_
            refine g_callV C (rest := []) 0 (fun l => m_M_SpillQueueModel_dropRun X ad r31 (s30.1, ua (ua s30.2 4 (upd (s30.2 4) r31.toNatClampNeg v34)) 3 (upd (s30.2 3) r31.toNatClampNeg v37)) _ h l) rfl rfl (gt 904 (by decide +kernel) rfl) cb_MO_dropRun ⟨rfl, rfl⟩ (by rw [hRm]; decide) ⟨Nat.zero_le _, Nat.zero_le _⟩ rfl rfl (Nat.le_of_ble_eq_true rfl) d_MO_take_92 (gkv (fun s50 h => ?_))
            refine g_goto C 135 d_MO_take_95 (by decide) ?_
            refine g_iload_n C d_MO_take_135 rfl 1 rfl ?_
            exact g_iret r rfl d_MO_take_136 (gBi_mk h)
        · have h := h.2 c32
          refine g_iload_n C d_MO_take_59 rfl 1 rfl ?_
          exact g_iret r rfl d_MO_take_60 (gBi_mk h)
      · have h := h.2 c29
        refine g_aload_n C d_MO_take_45 rfl 0 rfl ?_
        refine g_callV C (rest := []) 0 (fun l => m_M_SpillQueueModel_takeFromMemory X ad  s27 _ h l) rfl rfl (gt 892 (by decide +kernel) rfl) cb_MO_takeFromMemory ⟨rfl, rfl⟩ (by rw [hRm]; decide) ⟨Nat.zero_le _, Nat.zero_le _⟩ rfl rfl (Nat.le_of_ble_eq_true rfl) d_MO_take_46 (gki (fun r53 s52 h => ?_))
        exact g_iret r rfl d_MO_take_49 (gBi_mk h)
theorem m_M_SpillQueueModel_take (X : gX) (ad : Nat → Nat) (s : gS) (Q : Int32 → gS → Prop) (h : wp_M_SpillQueueModel_take  s Q) (l : Launch) : gM l X y_MO_take b_MO_take 3 (some .int) rm_M_SpillQueueModel_take [.ref (ad 0)] (wM ad X s) (gBi (wM ad X) Q) :=
  gM_of (by decide +kernel) rfl (Nat.le_of_ble_eq_true rfl) rfl (fun E C hRm r => w_M_SpillQueueModel_take X ad  s Q h E C hRm r)
