def rm_M_SpillQueueModel_thrown : Room := { frames := 0, cells := 0, slots := 0, locals := 0 }
def wp_M_SpillQueueModel_thrown (s : gS) (Q : Int32 → gS → Prop) : Prop := Q (s.1 0) s
set_option maxHeartbeats 4000000 in
set_option maxRecDepth 100000 in
theorem w_M_SpillQueueModel_thrown (X : gX) (ad : Nat → Nat) (s : gS) (Q : Int32 → gS → Prop) (h : wp_M_SpillQueueModel_thrown  s Q) (E : gE) (C : gC X E b_MO_thrown 1 R_MO) (hRm : gRm E = rm_M_SpillQueueModel_thrown) (r : gR X E b_MO_thrown (some .int) (gBi (wM ad X) Q)) : gW X E 0 0 (wM ad X s) [(0, .ref (ad 0))] 0 [] := by
  have h : Q (s.1 0) s := h
  refine g_aload_n C d_MO_thrown_0 rfl 0 rfl ?_
  refine g_get C (v := .int (s.1 0)) 0 0 iw_MO rfl rfl (by decide) (gt 731 (by decide +kernel) rfl) rfl rfl d_MO_thrown_1 ?_
  exact g_iret r rfl d_MO_thrown_4 (gBi_mk h)
theorem m_M_SpillQueueModel_thrown (X : gX) (ad : Nat → Nat) (s : gS) (Q : Int32 → gS → Prop) (h : wp_M_SpillQueueModel_thrown  s Q) (l : Launch) : gM l X y_MO_thrown b_MO_thrown 1 (some .int) rm_M_SpillQueueModel_thrown [.ref (ad 0)] (wM ad X s) (gBi (wM ad X) Q) :=
  gM_of (by decide +kernel) rfl (Nat.le_of_ble_eq_true rfl) rfl (fun E C hRm r => w_M_SpillQueueModel_thrown X ad  s Q h E C hRm r)
def rm_M_SpillQueueModel_within : Room := { frames := 0, cells := 0, slots := 0, locals := 0 }
def wp_M_SpillQueueModel_within (a0 : Int32) (a1 : Int32) (a2 : Int32) (s : gS) (Q : Int32 → gS → Prop) : Prop := ((a0 < a1 → Q 0 s) ∧ (¬ a0 < a1 → ((a2 < a0 → Q 0 s) ∧ (¬ a2 < a0 → Q 1 s))))
set_option maxHeartbeats 4000000 in
set_option maxRecDepth 100000 in
theorem w_M_SpillQueueModel_within (X : gX) (ad : Nat → Nat) (a0 : Int32) (a1 : Int32) (a2 : Int32) (s : gS) (Q : Int32 → gS → Prop) (h : wp_M_SpillQueueModel_within a0 a1 a2 s Q) (E : gE) (C : gC X E b_MO_within 3 R_MO) (hRm : gRm E = rm_M_SpillQueueModel_within) (r : gR X E b_MO_within (some .boolean) (gBi (wM ad X) Q)) : gW X E 0 0 (wM ad X s) [(0, .int a0), (1, .int a1), (2, .int a2)] 0 [] := by
  have h : ((a0 < a1 → Q 0 s) ∧ (¬ a0 < a1 → ((a2 < a0 → Q 0 s) ∧ (¬ a2 < a0 → Q 1 s)))) := h
  refine g_iload_n C d_MO_within_0 rfl 0 rfl ?_
  refine g_iload_n C d_MO_within_1 rfl 1 rfl ?_
  refine g_icmp_lt C 14 d_MO_within_2 (by decide) (fun c1 => ?_) (fun c1 => ?_)
  · have h := h.1 c1
    refine g_iconst C 0 d_MO_within_14 (by decide) ?_
    exact g_iret r rfl d_MO_within_15 (gBi_mk h)
  · have h := h.2 c1
    refine g_iload_n C d_MO_within_5 rfl 0 rfl ?_
    refine g_iload_n C d_MO_within_6 rfl 2 rfl ?_
    refine g_icmp_gt C 14 d_MO_within_7 (by decide) (fun c2 => ?_) (fun c2 => ?_)
    · have h := h.1 c2
      refine g_iconst C 0 d_MO_within_14 (by decide) ?_
      exact g_iret r rfl d_MO_within_15 (gBi_mk h)
    · have h := h.2 c2
      refine g_iconst C 1 d_MO_within_10 (by decide) ?_
      refine g_goto C 15 d_MO_within_11 (by decide) ?_
      exact g_iret r rfl d_MO_within_15 (gBi_mk h)
theorem m_M_SpillQueueModel_within (X : gX) (ad : Nat → Nat) (a0 : Int32) (a1 : Int32) (a2 : Int32) (s : gS) (Q : Int32 → gS → Prop) (h : wp_M_SpillQueueModel_within a0 a1 a2 s Q) (l : Launch) : gM l X y_MO_within b_MO_within 3 (some .boolean) rm_M_SpillQueueModel_within [.int a0, .int a1, .int a2] (wM ad X s) (gBi (wM ad X) Q) :=
  gM_of (by decide +kernel) rfl (Nat.le_of_ble_eq_true rfl) rfl (fun E C hRm r => w_M_SpillQueueModel_within X ad a0 a1 a2 s Q h E C hRm r)
def rm_M_SpillQueueModel_clearRow : Room := { frames := 0, cells := 0, slots := 0, locals := 0 }
def wl_M_SpillQueueModel_clearRow_2 (Q : gS → Prop) (K : Int32 → gS → Prop) : Nat → Int32 → gS → Prop
  | 0, _, _ => False
  | n + 1, x1, s => ((40 ≤ x1 → K x1 s) ∧ (¬ 40 ≤ x1 → vp_in x1 40 ∧ (∀ v3 : Int32, v3 = x1 + 1 → wl_M_SpillQueueModel_clearRow_2 Q K n v3 (s.1, ua s.2 8 (upd (s.2 8) x1.toNatClampNeg 0)))))
set_option maxHeartbeats 4000000 in
set_option maxRecDepth 100000 in
theorem w_M_SpillQueueModel_clearRow_2 (X : gX) (ad : Nat → Nat) (Q : gS → Prop) (K : Int32 → gS → Prop) (E : gE) (C : gC X E b_MO_clearRow 2 R_MO) (hRm : gRm E = rm_M_SpillQueueModel_clearRow) (r : gR X E b_MO_clearRow none (gBv (wM ad X) Q)) (hK : ∀ (x1 : Int32) (s : gS), K x1 s → gW X E 0 0 (wM ad X s) [(0, .ref (ad 0)), (1, .int x1)] 21 []) : ∀ (n : Nat) (x1 : Int32) (s : gS), wl_M_SpillQueueModel_clearRow_2 Q K n x1 s → gW X E 0 0 (wM ad X s) [(0, .ref (ad 0)), (1, .int x1)] 2 [] := by
  intro n
  induction n with
  | zero => intro x1 s h; exact False.elim h
  | succ n ih =>
    intro x1 s h
    have h : ((40 ≤ x1 → K x1 s) ∧ (¬ 40 ≤ x1 → vp_in x1 40 ∧ (∀ v3 : Int32, v3 = x1 + 1 → wl_M_SpillQueueModel_clearRow_2 Q K n v3 (s.1, ua s.2 8 (upd (s.2 8) x1.toNatClampNeg 0))))) := h
    refine g_iload_n C d_MO_clearRow_2 rfl 1 rfl ?_
    refine g_bipush C 40 d_MO_clearRow_3 (by decide) ?_
    refine g_icmp_ge C 21 d_MO_clearRow_5 (by decide) (fun c1 => ?_) (fun c1 => ?_)
    · have h := h.1 c1
      exact hK x1 s h
    · have h := h.2 c1
      refine g_aload_n C d_MO_clearRow_8 rfl 0 rfl ?_
      refine g_get C (v := .ref (ad 9)) 0 21 iw_MO rfl rfl (by decide) (gt 752 (by decide +kernel) rfl) rfl rfl d_MO_clearRow_9 ?_
      refine g_iload_n C d_MO_clearRow_12 rfl 1 rfl ?_
      refine g_iconst C 0 d_MO_clearRow_13 (by decide) ?_
      obtain ⟨i2, h⟩ := h
      refine g_iast C 9 0 (ws2 := wM ad X (s.1, ua s.2 8 (upd (s.2 8) x1.toNatClampNeg 0))) rfl rfl i2 rfl d_MO_clearRow_14 ?_
      obtain ⟨v3, e_v3⟩ : ∃ y : Int32, y = x1 + 1 := ⟨_, rfl⟩
      have h := h v3 e_v3
      refine g_iinc C (v := v3) (lv2 := [(0, .ref (ad 0)), (1, .int v3)]) d_MO_clearRow_15 1 rfl (by rw [e_v3]; rfl) (by decide) rfl ?_
      refine g_goto C 2 d_MO_clearRow_18 (by decide) ?_
      exact ih v3 (s.1, ua s.2 8 (upd (s.2 8) x1.toNatClampNeg 0)) h
def wp_M_SpillQueueModel_clearRow (s : gS) (Q : gS → Prop) : Prop := ∃ n4 : Nat, wl_M_SpillQueueModel_clearRow_2 Q (fun v6 s5 => Q s5)  n4 0 s
set_option maxHeartbeats 4000000 in
set_option maxRecDepth 100000 in
theorem w_M_SpillQueueModel_clearRow (X : gX) (ad : Nat → Nat) (s : gS) (Q : gS → Prop) (h : wp_M_SpillQueueModel_clearRow  s Q) (E : gE) (C : gC X E b_MO_clearRow 2 R_MO) (hRm : gRm E = rm_M_SpillQueueModel_clearRow) (r : gR X E b_MO_clearRow none (gBv (wM ad X) Q)) : gW X E 0 0 (wM ad X s) [(0, .ref (ad 0))] 0 [] := by
  have h : ∃ n4 : Nat, wl_M_SpillQueueModel_clearRow_2 Q (fun v6 s5 => Q s5)  n4 0 s := h
  refine g_iconst C 0 d_MO_clearRow_0 (by decide) ?_
  refine g_istore_n C (lv2 := [(0, .ref (ad 0)), (1, .int 0)]) d_MO_clearRow_1 rfl (by decide) rfl ?_
  obtain ⟨n4, h⟩ := h
  refine w_M_SpillQueueModel_clearRow_2 X ad Q (_)  E C hRm r ?_ n4 0 s h
  intro v6 s5 h
  exact g_vret r d_MO_clearRow_21 (gBv_mk h)
theorem m_M_SpillQueueModel_clearRow (X : gX) (ad : Nat → Nat) (s : gS) (Q : gS → Prop) (h : wp_M_SpillQueueModel_clearRow  s Q) (l : Launch) : gM l X y_MO_clearRow b_MO_clearRow 2 none rm_M_SpillQueueModel_clearRow [.ref (ad 0)] (wM ad X s) (gBv (wM ad X) Q) :=
  gM_of (by decide +kernel) rfl (Nat.le_of_ble_eq_true rfl) rfl (fun E C hRm r => w_M_SpillQueueModel_clearRow X ad  s Q h E C hRm r)
def rm_M_SpillQueueModel_at : Room := { frames := 0, cells := 0, slots := 0, locals := 0 }
def wp_M_SpillQueueModel_at (a1 : Int32) (a2 : Int32) (s : gS) (Q : Int32 → gS → Prop) : Prop := vp_in ((40 * a1) + a2) 8000 ∧ (Q (s.2 0 ((40 * a1) + a2).toNatClampNeg) s)
set_option maxHeartbeats 4000000 in
set_option maxRecDepth 100000 in
theorem w_M_SpillQueueModel_at (X : gX) (ad : Nat → Nat) (a1 : Int32) (a2 : Int32) (s : gS) (Q : Int32 → gS → Prop) (h : wp_M_SpillQueueModel_at a1 a2 s Q) (E : gE) (C : gC X E b_MO_at 3 R_MO) (hRm : gRm E = rm_M_SpillQueueModel_at) (r : gR X E b_MO_at (some .int) (gBi (wM ad X) Q)) : gW X E 0 0 (wM ad X s) [(0, .ref (ad 0)), (1, .int a1), (2, .int a2)] 0 [] := by
  have h : vp_in ((40 * a1) + a2) 8000 ∧ (Q (s.2 0 ((40 * a1) + a2).toNatClampNeg) s) := h
  refine g_aload_n C d_MO_at_0 rfl 0 rfl ?_
  refine g_get C (v := .ref (ad 1)) 0 6 iw_MO rfl rfl (by decide) (gt 737 (by decide +kernel) rfl) rfl rfl d_MO_at_1 ?_
  refine g_bipush C 40 d_MO_at_4 (by decide) ?_
  refine g_iload_n C d_MO_at_6 rfl 1 rfl ?_
  refine g_imul C d_MO_at_7 ?_
  refine g_iload_n C d_MO_at_8 rfl 2 rfl ?_
  refine g_iadd C d_MO_at_9 ?_
  obtain ⟨i1, h⟩ := h
  refine g_iald C 1 0 rfl rfl i1 d_MO_at_10 ?_
  exact g_iret r rfl d_MO_at_11 (gBi_mk h)
theorem m_M_SpillQueueModel_at (X : gX) (ad : Nat → Nat) (a1 : Int32) (a2 : Int32) (s : gS) (Q : Int32 → gS → Prop) (h : wp_M_SpillQueueModel_at a1 a2 s Q) (l : Launch) : gM l X y_MO_at b_MO_at 3 (some .int) rm_M_SpillQueueModel_at [.ref (ad 0), .int a1, .int a2] (wM ad X s) (gBi (wM ad X) Q) :=
  gM_of (by decide +kernel) rfl (Nat.le_of_ble_eq_true rfl) rfl (fun E C hRm r => w_M_SpillQueueModel_at X ad a1 a2 s Q h E C hRm r)
def rm_M_SpillQueueModel_sumOf : Room := { frames := 1, cells := 0, slots := 0, locals := 22 }
def wl_M_SpillQueueModel_sumOf_5 (Q : Int32 → gS → Prop) (K : Int32 → Int32 → gS → Prop) (x1 : Int32) : Nat → Int32 → Int32 → gS → Prop
  | 0, _, _, _ => False
  | n + 1, x2, x3, s => (((s.1 3) ≤ x3 → K x2 x3 s) ∧ (¬ (s.1 3) ≤ x3 → wp_M_SpillQueueModel_at x1 x3 s (fun r3 s2 => ∀ v4 : Int32, v4 = x2 + (r3 * ((2 * x3) + 1)) → ∀ v5 : Int32, v5 = x3 + 1 → wl_M_SpillQueueModel_sumOf_5 Q K x1 n v4 v5 s2)))
set_option maxHeartbeats 4000000 in
set_option maxRecDepth 100000 in
theorem w_M_SpillQueueModel_sumOf_5 (X : gX) (ad : Nat → Nat) (Q : Int32 → gS → Prop) (K : Int32 → Int32 → gS → Prop) (x1 : Int32) (E : gE) (C : gC X E b_MO_sumOf 4 R_MO) (hRm : gRm E = rm_M_SpillQueueModel_sumOf) (r : gR X E b_MO_sumOf (some .int) (gBi (wM ad X) Q)) (hK : ∀ (x2 : Int32) (x3 : Int32) (s : gS), K x2 x3 s → gW X E 0 0 (wM ad X s) [(0, .ref (ad 0)), (1, .int x1), (2, .int x2), (3, .int x3)] 34 []) : ∀ (n : Nat) (x2 : Int32) (x3 : Int32) (s : gS), wl_M_SpillQueueModel_sumOf_5 Q K x1 n x2 x3 s → gW X E 0 0 (wM ad X s) [(0, .ref (ad 0)), (1, .int x1), (2, .int x2), (3, .int x3)] 5 [] := by
  intro n
  induction n with
  | zero => intro x2 x3 s h; exact False.elim h
  | succ n ih =>
    intro x2 x3 s h
    have h : (((s.1 3) ≤ x3 → K x2 x3 s) ∧ (¬ (s.1 3) ≤ x3 → wp_M_SpillQueueModel_at x1 x3 s (fun r3 s2 => ∀ v4 : Int32, v4 = x2 + (r3 * ((2 * x3) + 1)) → ∀ v5 : Int32, v5 = x3 + 1 → wl_M_SpillQueueModel_sumOf_5 Q K x1 n v4 v5 s2))) := h
    refine g_iload_n C d_MO_sumOf_5 rfl 3 rfl ?_
    refine g_aload_n C d_MO_sumOf_6 rfl 0 rfl ?_
    refine g_get C (v := .int (s.1 3)) 0 3 iw_MO rfl rfl (by decide) (gt 734 (by decide +kernel) rfl) rfl rfl d_MO_sumOf_7 ?_
    refine g_icmp_ge C 34 d_MO_sumOf_10 (by decide) (fun c1 => ?_) (fun c1 => ?_)
    · have h := h.1 c1
      exact hK x2 x3 s h
    · have h := h.2 c1
      refine g_iload_n C d_MO_sumOf_13 rfl 2 rfl ?_
      refine g_aload_n C d_MO_sumOf_14 rfl 0 rfl ?_
      refine g_iload_n C d_MO_sumOf_15 rfl 1 rfl ?_
      refine g_iload_n C d_MO_sumOf_16 rfl 3 rfl ?_
      refine g_callV C (rest := [.int x2]) 0 (fun l => m_M_SpillQueueModel_at X ad x1 x3 s _ h l) rfl rfl (gt 840 (by decide +kernel) rfl) cb_MO_at ⟨rfl, rfl⟩ (by rw [hRm]; decide) ⟨Nat.zero_le _, Nat.zero_le _⟩ rfl rfl (Nat.le_of_ble_eq_true rfl) d_MO_sumOf_17 (gki (fun r3 s2 h => ?_))
      refine g_iconst C 2 d_MO_sumOf_20 (by decide) ?_
      refine g_iload_n C d_MO_sumOf_21 rfl 3 rfl ?_
      refine g_imul C d_MO_sumOf_22 ?_
      refine g_iconst C 1 d_MO_sumOf_23 (by decide) ?_
      refine g_iadd C d_MO_sumOf_24 ?_
      refine g_imul C d_MO_sumOf_25 ?_
      refine g_iadd C d_MO_sumOf_26 ?_
      refine g_topi (fun v4 e_v4 => ?_)
      have h := h v4 e_v4
      refine g_istore_n C (lv2 := [(0, .ref (ad 0)), (1, .int x1), (2, .int v4), (3, .int x3)]) d_MO_sumOf_27 rfl (by decide) rfl ?_
      obtain ⟨v5, e_v5⟩ : ∃ y : Int32, y = x3 + 1 := ⟨_, rfl⟩
      have h := h v5 e_v5
      refine g_iinc C (v := v5) (lv2 := [(0, .ref (ad 0)), (1, .int x1), (2, .int v4), (3, .int v5)]) d_MO_sumOf_28 3 rfl (by rw [e_v5]; rfl) (by decide) rfl ?_
      refine g_goto C 5 d_MO_sumOf_31 (by decide) ?_
      exact ih v4 v5 s2 h
def wp_M_SpillQueueModel_sumOf (a1 : Int32) (s : gS) (Q : Int32 → gS → Prop) : Prop := ∃ n6 : Nat, wl_M_SpillQueueModel_sumOf_5 Q (fun v8 v9 s7 => Q v8 s7) a1 n6 7 1 s
set_option maxHeartbeats 4000000 in
set_option maxRecDepth 100000 in
theorem w_M_SpillQueueModel_sumOf (X : gX) (ad : Nat → Nat) (a1 : Int32) (s : gS) (Q : Int32 → gS → Prop) (h : wp_M_SpillQueueModel_sumOf a1 s Q) (E : gE) (C : gC X E b_MO_sumOf 4 R_MO) (hRm : gRm E = rm_M_SpillQueueModel_sumOf) (r : gR X E b_MO_sumOf (some .int) (gBi (wM ad X) Q)) : gW X E 0 0 (wM ad X s) [(0, .ref (ad 0)), (1, .int a1)] 0 [] := by
  have h : ∃ n6 : Nat, wl_M_SpillQueueModel_sumOf_5 Q (fun v8 v9 s7 => Q v8 s7) a1 n6 7 1 s := h
  refine g_bipush C 7 d_MO_sumOf_0 (by decide) ?_
  refine g_istore_n C (lv2 := [(0, .ref (ad 0)), (1, .int a1), (2, .int 7)]) d_MO_sumOf_2 rfl (by decide) rfl ?_
  refine g_iconst C 1 d_MO_sumOf_3 (by decide) ?_
  refine g_istore_n C (lv2 := [(0, .ref (ad 0)), (1, .int a1), (2, .int 7), (3, .int 1)]) d_MO_sumOf_4 rfl (by decide) rfl ?_
  obtain ⟨n6, h⟩ := h
  refine w_M_SpillQueueModel_sumOf_5 X ad Q (_) a1 E C hRm r ?_ n6 7 1 s h
  intro v8 v9 s7 h
  refine g_iload_n C d_MO_sumOf_34 rfl 2 rfl ?_
  exact g_iret r rfl d_MO_sumOf_35 (gBi_mk h)
theorem m_M_SpillQueueModel_sumOf (X : gX) (ad : Nat → Nat) (a1 : Int32) (s : gS) (Q : Int32 → gS → Prop) (h : wp_M_SpillQueueModel_sumOf a1 s Q) (l : Launch) : gM l X y_MO_sumOf b_MO_sumOf 4 (some .int) rm_M_SpillQueueModel_sumOf [.ref (ad 0), .int a1] (wM ad X s) (gBi (wM ad X) Q) :=
  gM_of (by decide +kernel) rfl (Nat.le_of_ble_eq_true rfl) rfl (fun E C hRm r => w_M_SpillQueueModel_sumOf X ad a1 s Q h E C hRm r)
def rm_M_SpillQueueModel_write : Room := { frames := 2, cells := 0, slots := 0, locals := 45 }
def wl_M_SpillQueueModel_write_57 (Q : gS → Prop) (K : Int32 → gS → Prop) (x1 : Int32) : Nat → Int32 → gS → Prop
  | 0, _, _ => False
  | n + 1, x2, s => (((s.1 3) ≤ x2 → K x2 s) ∧ (¬ (s.1 3) ≤ x2 → vp_in x2 40 ∧ (∀ v8 : Int32, v8 = s.2 8 x2.toNatClampNeg → vp_in ((40 * x1) + x2) 8000 ∧ (∀ v10 : Int32, v10 = x2 + 1 → wl_M_SpillQueueModel_write_57 Q K x1 n v10 (s.1, ua s.2 0 (upd (s.2 0) ((40 * x1) + x2).toNatClampNeg v8))))))
set_option maxHeartbeats 4000000 in
set_option maxRecDepth 100000 in
theorem w_M_SpillQueueModel_write_57 (X : gX) (ad : Nat → Nat) (Q : gS → Prop) (K : Int32 → gS → Prop) (x1 : Int32) (E : gE) (C : gC X E b_MO_write 3 R_MO) (hRm : gRm E = rm_M_SpillQueueModel_write) (r : gR X E b_MO_write none (gBv (wM ad X) Q)) (hK : ∀ (x2 : Int32) (s : gS), K x2 s → gW X E 0 0 (wM ad X s) [(0, .ref (ad 0)), (1, .int x1), (2, .int x2)] 88 []) : ∀ (n : Nat) (x2 : Int32) (s : gS), wl_M_SpillQueueModel_write_57 Q K x1 n x2 s → gW X E 0 0 (wM ad X s) [(0, .ref (ad 0)), (1, .int x1), (2, .int x2)] 57 [] := by
  intro n
  induction n with
  | zero => intro x2 s h; exact False.elim h
  | succ n ih =>
    intro x2 s h
    have h : (((s.1 3) ≤ x2 → K x2 s) ∧ (¬ (s.1 3) ≤ x2 → vp_in x2 40 ∧ (∀ v8 : Int32, v8 = s.2 8 x2.toNatClampNeg → vp_in ((40 * x1) + x2) 8000 ∧ (∀ v10 : Int32, v10 = x2 + 1 → wl_M_SpillQueueModel_write_57 Q K x1 n v10 (s.1, ua s.2 0 (upd (s.2 0) ((40 * x1) + x2).toNatClampNeg v8)))))) := h
    refine g_iload_n C d_MO_write_57 rfl 2 rfl ?_
    refine g_aload_n C d_MO_write_58 rfl 0 rfl ?_
    refine g_get C (v := .int (s.1 3)) 0 3 iw_MO rfl rfl (by decide) (gt 734 (by decide +kernel) rfl) rfl rfl d_MO_write_59 ?_
    refine g_icmp_ge C 88 d_MO_write_62 (by decide) (fun c6 => ?_) (fun c6 => ?_)
    · have h := h.1 c6
      exact hK x2 s h
    · have h := h.2 c6
      refine g_aload_n C d_MO_write_65 rfl 0 rfl ?_
      refine g_get C (v := .ref (ad 1)) 0 6 iw_MO rfl rfl (by decide) (gt 737 (by decide +kernel) rfl) rfl rfl d_MO_write_66 ?_
      refine g_bipush C 40 d_MO_write_69 (by decide) ?_
      refine g_iload_n C d_MO_write_71 rfl 1 rfl ?_
      refine g_imul C d_MO_write_72 ?_
      refine g_iload_n C d_MO_write_73 rfl 2 rfl ?_
      refine g_iadd C d_MO_write_74 ?_
      refine g_aload_n C d_MO_write_75 rfl 0 rfl ?_
      refine g_get C (v := .ref (ad 9)) 0 21 iw_MO rfl rfl (by decide) (gt 752 (by decide +kernel) rfl) rfl rfl d_MO_write_76 ?_
      refine g_iload_n C d_MO_write_79 rfl 2 rfl ?_
      obtain ⟨i7, h⟩ := h
      refine g_iald C 9 0 rfl rfl i7 d_MO_write_80 ?_
      refine g_topi (fun v8 e_v8 => ?_)
      have h := h v8 e_v8
      obtain ⟨i9, h⟩ := h
      refine g_iast C 1 0 (ws2 := wM ad X (s.1, ua s.2 0 (upd (s.2 0) ((40 * x1) + x2).toNatClampNeg v8))) rfl rfl i9 rfl d_MO_write_81 ?_
      obtain ⟨v10, e_v10⟩ : ∃ y : Int32, y = x2 + 1 := ⟨_, rfl⟩
      have h := h v10 e_v10
      refine g_iinc C (v := v10) (lv2 := [(0, .ref (ad 0)), (1, .int x1), (2, .int v10)]) d_MO_write_82 2 rfl (by rw [e_v10]; rfl) (by decide) rfl ?_
      refine g_goto C 57 d_MO_write_85 (by decide) ?_
      exact ih v10 (s.1, ua s.2 0 (upd (s.2 0) ((40 * x1) + x2).toNatClampNeg v8)) h
def wp_M_SpillQueueModel_write (a1 : Int32) (s : gS) (Q : gS → Prop) : Prop := ((¬ (s.1 9) = 0 → Q (up s.1 9 (1), s.2)) ∧ ((s.1 9) = 0 → ((¬ (s.1 7) = 1 → (((s.1 7) ≤ 0 → ∀ v4 : Int32, v4 = s.1 7 → ∀ v5 : Int32, v5 = (s.1 6) + 1 → ∃ n11 : Nat, wl_M_SpillQueueModel_write_57 Q (fun v13 s12 => wp_M_SpillQueueModel_sumOf a1 s12 (fun r15 s14 => vp_in (40 * a1) 8000 ∧ (Q (s14.1, ua s14.2 0 (upd (s14.2 0) (40 * a1).toNatClampNeg r15))))) a1 n11 1 (up (up s.1 7 (v4)) 6 (v5), s.2)) ∧ (¬ (s.1 7) ≤ 0 → ∀ v17 : Int32, v17 = (s.1 7) - 1 → ∀ v18 : Int32, v18 = (s.1 6) + 1 → ∃ n19 : Nat, wl_M_SpillQueueModel_write_57 Q (fun v21 s20 => wp_M_SpillQueueModel_sumOf a1 s20 (fun r23 s22 => vp_in (40 * a1) 8000 ∧ (Q (s22.1, ua s22.2 0 (upd (s22.2 0) (40 * a1).toNatClampNeg r23))))) a1 n19 1 (up (up s.1 7 (v17)) 6 (v18), s.2)))) ∧ ((s.1 7) = 1 → Q (up s.1 9 (1), s.2)))))
set_option maxHeartbeats 4000000 in
set_option maxRecDepth 100000 in
theorem w_M_SpillQueueModel_write (X : gX) (ad : Nat → Nat) (a1 : Int32) (s : gS) (Q : gS → Prop) (h : wp_M_SpillQueueModel_write a1 s Q) (E : gE) (C : gC X E b_MO_write 3 R_MO) (hRm : gRm E = rm_M_SpillQueueModel_write) (r : gR X E b_MO_write none (gBv (wM ad X) Q)) : gW X E 0 0 (wM ad X s) [(0, .ref (ad 0)), (1, .int a1)] 0 [] := by
  have h : ((¬ (s.1 9) = 0 → Q (up s.1 9 (1), s.2)) ∧ ((s.1 9) = 0 → ((¬ (s.1 7) = 1 → (((s.1 7) ≤ 0 → ∀ v4 : Int32, v4 = s.1 7 → ∀ v5 : Int32, v5 = (s.1 6) + 1 → ∃ n11 : Nat, wl_M_SpillQueueModel_write_57 Q (fun v13 s12 => wp_M_SpillQueueModel_sumOf a1 s12 (fun r15 s14 => vp_in (40 * a1) 8000 ∧ (Q (s14.1, ua s14.2 0 (upd (s14.2 0) (40 * a1).toNatClampNeg r15))))) a1 n11 1 (up (up s.1 7 (v4)) 6 (v5), s.2)) ∧ (¬ (s.1 7) ≤ 0 → ∀ v17 : Int32, v17 = (s.1 7) - 1 → ∀ v18 : Int32, v18 = (s.1 6) + 1 → ∃ n19 : Nat, wl_M_SpillQueueModel_write_57 Q (fun v21 s20 => wp_M_SpillQueueModel_sumOf a1 s20 (fun r23 s22 => vp_in (40 * a1) 8000 ∧ (Q (s22.1, ua s22.2 0 (upd (s22.2 0) (40 * a1).toNatClampNeg r23))))) a1 n19 1 (up (up s.1 7 (v17)) 6 (v18), s.2)))) ∧ ((s.1 7) = 1 → Q (up s.1 9 (1), s.2))))) := h
  refine g_aload_n C d_MO_write_0 rfl 0 rfl ?_
  refine g_get C (v := .int (s.1 9)) 0 10 iw_MO rfl rfl (by decide) (gt 741 (by decide +kernel) rfl) rfl rfl d_MO_write_1 ?_
  refine g_if_ne C 15 d_MO_write_4 (by decide) (fun c1 => ?_) (fun c1 => ?_)
  · have h := h.1 c1
    refine g_aload_n C d_MO_write_15 rfl 0 rfl ?_
    refine g_iconst C 1 d_MO_write_16 (by decide) ?_
    refine g_put C (ws2 := wM ad X (up s.1 9 (1), s.2)) 0 10 iw_MO ty_MO tyok_MO nm_MO rfl rfl (by decide) (gt 741 (by decide +kernel) rfl) rfl rfl (by decide +kernel) (by decide +kernel) (Nat.le_of_ble_eq_true rfl) rfl d_MO_write_17 ?_
    exact g_vret r d_MO_write_20 (gBv_mk h)
  · have h := h.2 c1
    refine g_aload_n C d_MO_write_7 rfl 0 rfl ?_
    refine g_get C (v := .int (s.1 7)) 0 8 iw_MO rfl rfl (by decide) (gt 739 (by decide +kernel) rfl) rfl rfl d_MO_write_8 ?_
    refine g_iconst C 1 d_MO_write_11 (by decide) ?_
    refine g_icmp_ne C 21 d_MO_write_12 (by decide) (fun c2 => ?_) (fun c2 => ?_)
    · have h := h.1 c2
      refine g_aload_n C d_MO_write_21 rfl 0 rfl ?_
      refine g_aload_n C d_MO_write_22 rfl 0 rfl ?_
      refine g_get C (v := .int (s.1 7)) 0 8 iw_MO rfl rfl (by decide) (gt 739 (by decide +kernel) rfl) rfl rfl d_MO_write_23 ?_
      refine g_if_le C 38 d_MO_write_26 (by decide) (fun c3 => ?_) (fun c3 => ?_)
      · have h := h.1 c3
        refine g_aload_n C d_MO_write_38 rfl 0 rfl ?_
        refine g_get C (v := .int (s.1 7)) 0 8 iw_MO rfl rfl (by decide) (gt 739 (by decide +kernel) rfl) rfl rfl d_MO_write_39 ?_
        refine g_topi (fun v4 e_v4 => ?_)
        have h := h v4 e_v4
        refine g_put C (ws2 := wM ad X (up s.1 7 (v4), s.2)) 0 8 iw_MO ty_MO tyok_MO nm_MO rfl rfl (by decide) (gt 739 (by decide +kernel) rfl) rfl rfl rfl rfl (Nat.le_of_ble_eq_true rfl) rfl d_MO_write_42 ?_
        refine g_aload_n C d_MO_write_45 rfl 0 rfl ?_
        refine g_dup C rfl d_MO_write_46 ?_
        refine g_get C (v := .int (s.1 6)) 0 7 iw_MO rfl rfl (by decide) (gt 738 (by decide +kernel) rfl) rfl rfl d_MO_write_47 ?_
        refine g_iconst C 1 d_MO_write_50 (by decide) ?_
        refine g_iadd C d_MO_write_51 ?_
        refine g_topi (fun v5 e_v5 => ?_)
        have h := h v5 e_v5
        refine g_put C (ws2 := wM ad X (up (up s.1 7 (v4)) 6 (v5), s.2)) 0 7 iw_MO ty_MO tyok_MO nm_MO rfl rfl (by decide) (gt 738 (by decide +kernel) rfl) rfl rfl rfl rfl (Nat.le_of_ble_eq_true rfl) rfl d_MO_write_52 ?_
        refine g_iconst C 1 d_MO_write_55 (by decide) ?_
        refine g_istore_n C (lv2 := [(0, .ref (ad 0)), (1, .int a1), (2, .int 1)]) d_MO_write_56 rfl (by decide) rfl ?_
        obtain ⟨n11, h⟩ := h
        refine w_M_SpillQueueModel_write_57 X ad Q (_) a1 E C hRm r ?_ n11 1 (up (up s.1 7 (v4)) 6 (v5), s.2) h
        intro v13 s12 h
        refine g_aload_n C d_MO_write_88 rfl 0 rfl ?_
        refine g_get C (v := .ref (ad 1)) 0 6 iw_MO rfl rfl (by decide) (gt 737 (by decide +kernel) rfl) rfl rfl d_MO_write_89 ?_
        refine g_bipush C 40 d_MO_write_92 (by decide) ?_
        refine g_iload_n C d_MO_write_94 rfl 1 rfl ?_
        refine g_imul C d_MO_write_95 ?_
        refine g_aload_n C d_MO_write_96 rfl 0 rfl ?_
        refine g_iload_n C d_MO_write_97 rfl 1 rfl ?_
        refine g_callV C (rest := [.int (40 * a1), .ref (ad 1)]) 0 (fun l => m_M_SpillQueueModel_sumOf X ad a1 s12 _ h l) rfl rfl (gt 836 (by decide +kernel) rfl) cb_MO_sumOf ⟨rfl, rfl⟩ (by rw [hRm]; decide) ⟨Nat.zero_le _, Nat.zero_le _⟩ rfl rfl (Nat.le_of_ble_eq_true rfl) d_MO_write_98 (gki (fun r15 s14 h => ?_))
        obtain ⟨i16, h⟩ := h
        refine g_iast C 1 0 (ws2 := wM ad X (s14.1, ua s14.2 0 (upd (s14.2 0) (40 * a1).toNatClampNeg r15))) rfl rfl i16 rfl d_MO_write_101 ?_
        exact g_vret r d_MO_write_102 (gBv_mk h)
      · have h := h.2 c3
        refine g_aload_n C d_MO_write_29 rfl 0 rfl ?_
        refine g_get C (v := .int (s.1 7)) 0 8 iw_MO rfl rfl (by decide) (gt 739 (by decide +kernel) rfl) rfl rfl d_MO_write_30 ?_
        refine g_iconst C 1 d_MO_write_33 (by decide) ?_
        refine g_isub C d_MO_write_34 ?_
        refine g_goto C 42 d_MO_write_35 (by decide) ?_
        refine g_topi (fun v17 e_v17 => ?_)
        have h := h v17 e_v17
        refine g_put C (ws2 := wM ad X (up s.1 7 (v17), s.2)) 0 8 iw_MO ty_MO tyok_MO nm_MO rfl rfl (by decide) (gt 739 (by decide +kernel) rfl) rfl rfl rfl rfl (Nat.le_of_ble_eq_true rfl) rfl d_MO_write_42 ?_
        refine g_aload_n C d_MO_write_45 rfl 0 rfl ?_
        refine g_dup C rfl d_MO_write_46 ?_
        refine g_get C (v := .int (s.1 6)) 0 7 iw_MO rfl rfl (by decide) (gt 738 (by decide +kernel) rfl) rfl rfl d_MO_write_47 ?_
        refine g_iconst C 1 d_MO_write_50 (by decide) ?_
        refine g_iadd C d_MO_write_51 ?_
        refine g_topi (fun v18 e_v18 => ?_)
        have h := h v18 e_v18
        refine g_put C (ws2 := wM ad X (up (up s.1 7 (v17)) 6 (v18), s.2)) 0 7 iw_MO ty_MO tyok_MO nm_MO rfl rfl (by decide) (gt 738 (by decide +kernel) rfl) rfl rfl rfl rfl (Nat.le_of_ble_eq_true rfl) rfl d_MO_write_52 ?_
        refine g_iconst C 1 d_MO_write_55 (by decide) ?_
        refine g_istore_n C (lv2 := [(0, .ref (ad 0)), (1, .int a1), (2, .int 1)]) d_MO_write_56 rfl (by decide) rfl ?_
        obtain ⟨n19, h⟩ := h
        refine w_M_SpillQueueModel_write_57 X ad Q (_) a1 E C hRm r ?_ n19 1 (up (up s.1 7 (v17)) 6 (v18), s.2) h
        intro v21 s20 h
        refine g_aload_n C d_MO_write_88 rfl 0 rfl ?_
        refine g_get C (v := .ref (ad 1)) 0 6 iw_MO rfl rfl (by decide) (gt 737 (by decide +kernel) rfl) rfl rfl d_MO_write_89 ?_
        refine g_bipush C 40 d_MO_write_92 (by decide) ?_
        refine g_iload_n C d_MO_write_94 rfl 1 rfl ?_
        refine g_imul C d_MO_write_95 ?_
        refine g_aload_n C d_MO_write_96 rfl 0 rfl ?_
        refine g_iload_n C d_MO_write_97 rfl 1 rfl ?_
        refine g_callV C (rest := [.int (40 * a1), .ref (ad 1)]) 0 (fun l => m_M_SpillQueueModel_sumOf X ad a1 s20 _ h l) rfl rfl (gt 836 (by decide +kernel) rfl) cb_MO_sumOf ⟨rfl, rfl⟩ (by rw [hRm]; decide) ⟨Nat.zero_le _, Nat.zero_le _⟩ rfl rfl (Nat.le_of_ble_eq_true rfl) d_MO_write_98 (gki (fun r23 s22 h => ?_))
        obtain ⟨i24, h⟩ := h
        refine g_iast C 1 0 (ws2 := wM ad X (s22.1, ua s22.2 0 (upd (s22.2 0) (40 * a1).toNatClampNeg r23))) rfl rfl i24 rfl d_MO_write_101 ?_
        exact g_vret r d_MO_write_102 (gBv_mk h)
    · have h := h.2 c2
      refine g_aload_n C d_MO_write_15 rfl 0 rfl ?_
      refine g_iconst C 1 d_MO_write_16 (by decide) ?_
      refine g_put C (ws2 := wM ad X (up s.1 9 (1), s.2)) 0 10 iw_MO ty_MO tyok_MO nm_MO rfl rfl (by decide) (gt 741 (by decide +kernel) rfl) rfl rfl (by decide +kernel) (by decide +kernel) (Nat.le_of_ble_eq_true rfl) rfl d_MO_write_17 ?_
      exact g_vret r d_MO_write_20 (gBv_mk h)
theorem m_M_SpillQueueModel_write (X : gX) (ad : Nat → Nat) (a1 : Int32) (s : gS) (Q : gS → Prop) (h : wp_M_SpillQueueModel_write a1 s Q) (l : Launch) : gM l X y_MO_write b_MO_write 3 none rm_M_SpillQueueModel_write [.ref (ad 0), .int a1] (wM ad X s) (gBv (wM ad X) Q) :=
  gM_of (by decide +kernel) rfl (Nat.le_of_ble_eq_true rfl) rfl (fun E C hRm r => w_M_SpillQueueModel_write X ad a1 s Q h E C hRm r)
def rm_M_SpillQueueModel_room : Room := { frames := 0, cells := 0, slots := 0, locals := 0 }
def wp_M_SpillQueueModel_room (s : gS) (Q : Int32 → gS → Prop) : Prop := Q ((s.1 3) - 2) s
set_option maxHeartbeats 4000000 in
set_option maxRecDepth 100000 in
theorem w_M_SpillQueueModel_room (X : gX) (ad : Nat → Nat) (s : gS) (Q : Int32 → gS → Prop) (h : wp_M_SpillQueueModel_room  s Q) (E : gE) (C : gC X E b_MO_room 1 R_MO) (hRm : gRm E = rm_M_SpillQueueModel_room) (r : gR X E b_MO_room (some .int) (gBi (wM ad X) Q)) : gW X E 0 0 (wM ad X s) [(0, .ref (ad 0))] 0 [] := by
  have h : Q ((s.1 3) - 2) s := h
  refine g_aload_n C d_MO_room_0 rfl 0 rfl ?_
  refine g_get C (v := .int (s.1 3)) 0 3 iw_MO rfl rfl (by decide) (gt 734 (by decide +kernel) rfl) rfl rfl d_MO_room_1 ?_
  refine g_iconst C 2 d_MO_room_4 (by decide) ?_
  refine g_isub C d_MO_room_5 ?_
  exact g_iret r rfl d_MO_room_6 (gBi_mk h)
theorem m_M_SpillQueueModel_room (X : gX) (ad : Nat → Nat) (s : gS) (Q : Int32 → gS → Prop) (h : wp_M_SpillQueueModel_room  s Q) (l : Launch) : gM l X y_MO_room b_MO_room 1 (some .int) rm_M_SpillQueueModel_room [.ref (ad 0)] (wM ad X s) (gBi (wM ad X) Q) :=
  gM_of (by decide +kernel) rfl (Nat.le_of_ble_eq_true rfl) rfl (fun E C hRm r => w_M_SpillQueueModel_room X ad  s Q h E C hRm r)
def rm_M_SpillQueueModel_blocksOf : Room := { frames := 1, cells := 0, slots := 0, locals := 20 }
def wp_M_SpillQueueModel_blocksOf (a1 : Int32) (a2 : Int32) (s : gS) (Q : Int32 → gS → Prop) : Prop := wp_M_SpillQueueModel_room s (fun r2 s1 => wp_M_SpillQueueModel_room s1 (fun r4 s3 => ¬ r4 = 0 ∧ (Q ((((a1 + a2) + r2) - 1) / r4) s3)))
set_option maxHeartbeats 4000000 in
set_option maxRecDepth 100000 in
theorem w_M_SpillQueueModel_blocksOf (X : gX) (ad : Nat → Nat) (a1 : Int32) (a2 : Int32) (s : gS) (Q : Int32 → gS → Prop) (h : wp_M_SpillQueueModel_blocksOf a1 a2 s Q) (E : gE) (C : gC X E b_MO_blocksOf 3 R_MO) (hRm : gRm E = rm_M_SpillQueueModel_blocksOf) (r : gR X E b_MO_blocksOf (some .int) (gBi (wM ad X) Q)) : gW X E 0 0 (wM ad X s) [(0, .ref (ad 0)), (1, .int a1), (2, .int a2)] 0 [] := by
  have h : wp_M_SpillQueueModel_room s (fun r2 s1 => wp_M_SpillQueueModel_room s1 (fun r4 s3 => ¬ r4 = 0 ∧ (Q ((((a1 + a2) + r2) - 1) / r4) s3))) := h
  refine g_iload_n C d_MO_blocksOf_0 rfl 1 rfl ?_
  refine g_iload_n C d_MO_blocksOf_1 rfl 2 rfl ?_
  refine g_iadd C d_MO_blocksOf_2 ?_
  refine g_aload_n C d_MO_blocksOf_3 rfl 0 rfl ?_
  refine g_callV C (rest := [.int (a1 + a2)]) 0 (fun l => m_M_SpillQueueModel_room X ad  s _ h l) rfl rfl (gt 852 (by decide +kernel) rfl) cb_MO_room ⟨rfl, rfl⟩ (by rw [hRm]; decide) ⟨Nat.zero_le _, Nat.zero_le _⟩ rfl rfl (Nat.le_of_ble_eq_true rfl) d_MO_blocksOf_4 (gki (fun r2 s1 h => ?_))
  refine g_iadd C d_MO_blocksOf_7 ?_
  refine g_iconst C 1 d_MO_blocksOf_8 (by decide) ?_
  refine g_isub C d_MO_blocksOf_9 ?_
  refine g_aload_n C d_MO_blocksOf_10 rfl 0 rfl ?_
  refine g_callV C (rest := [.int (((a1 + a2) + r2) - 1)]) 0 (fun l => m_M_SpillQueueModel_room X ad  s1 _ h l) rfl rfl (gt 852 (by decide +kernel) rfl) cb_MO_room ⟨rfl, rfl⟩ (by rw [hRm]; decide) ⟨Nat.zero_le _, Nat.zero_le _⟩ rfl rfl (Nat.le_of_ble_eq_true rfl) d_MO_blocksOf_11 (gki (fun r4 s3 h => ?_))
  obtain ⟨z5, h⟩ := h
  refine g_idiv C z5 d_MO_blocksOf_14 ?_
  exact g_iret r rfl d_MO_blocksOf_15 (gBi_mk h)
theorem m_M_SpillQueueModel_blocksOf (X : gX) (ad : Nat → Nat) (a1 : Int32) (a2 : Int32) (s : gS) (Q : Int32 → gS → Prop) (h : wp_M_SpillQueueModel_blocksOf a1 a2 s Q) (l : Launch) : gM l X y_MO_blocksOf b_MO_blocksOf 3 (some .int) rm_M_SpillQueueModel_blocksOf [.ref (ad 0), .int a1, .int a2] (wM ad X s) (gBi (wM ad X) Q) :=
  gM_of (by decide +kernel) rfl (Nat.le_of_ble_eq_true rfl) rfl (fun E C hRm r => w_M_SpillQueueModel_blocksOf X ad a1 a2 s Q h E C hRm r)
def rm_M_SpillQueueModel_markTaken : Room := { frames := 2, cells := 0, slots := 0, locals := 42 }
def wl_M_SpillQueueModel_markTaken_2 (Q : gS → Prop) (K : Int32 → gS → Prop) : Nat → Int32 → gS → Prop
  | 0, _, _ => False
  | n + 1, x1, s => ((200 ≤ x1 → K x1 s) ∧ (¬ 200 ≤ x1 → vp_in x1 200 ∧ (∀ v3 : Int32, v3 = x1 + 1 → wl_M_SpillQueueModel_markTaken_2 Q K n v3 (s.1, ua s.2 7 (upd (s.2 7) x1.toNatClampNeg (vp_nar .boolean 0))))))
set_option maxHeartbeats 4000000 in
set_option maxRecDepth 100000 in
theorem w_M_SpillQueueModel_markTaken_2 (X : gX) (ad : Nat → Nat) (Q : gS → Prop) (K : Int32 → gS → Prop) (E : gE) (C : gC X E b_MO_markTaken 5 R_MO) (hRm : gRm E = rm_M_SpillQueueModel_markTaken) (r : gR X E b_MO_markTaken none (gBv (wM ad X) Q)) (hK : ∀ (x1 : Int32) (s : gS), K x1 s → gW X E 0 0 (wM ad X s) [(0, .ref (ad 0)), (1, .int x1)] 22 []) : ∀ (n : Nat) (x1 : Int32) (s : gS), wl_M_SpillQueueModel_markTaken_2 Q K n x1 s → gW X E 0 0 (wM ad X s) [(0, .ref (ad 0)), (1, .int x1)] 2 [] := by
  intro n
  induction n with
  | zero => intro x1 s h; exact False.elim h
  | succ n ih =>
    intro x1 s h
    have h : ((200 ≤ x1 → K x1 s) ∧ (¬ 200 ≤ x1 → vp_in x1 200 ∧ (∀ v3 : Int32, v3 = x1 + 1 → wl_M_SpillQueueModel_markTaken_2 Q K n v3 (s.1, ua s.2 7 (upd (s.2 7) x1.toNatClampNeg (vp_nar .boolean 0)))))) := h
    refine g_iload_n C d_MO_markTaken_2 rfl 1 rfl ?_
    refine g_sipush C 200 d_MO_markTaken_3 (by decide) ?_
    refine g_icmp_ge C 22 d_MO_markTaken_6 (by decide) (fun c1 => ?_) (fun c1 => ?_)
    · have h := h.1 c1
      exact hK x1 s h
    · have h := h.2 c1
      refine g_aload_n C d_MO_markTaken_9 rfl 0 rfl ?_
      refine g_get C (v := .ref (ad 8)) 0 20 iw_MO rfl rfl (by decide) (gt 751 (by decide +kernel) rfl) rfl rfl d_MO_markTaken_10 ?_
      refine g_iload_n C d_MO_markTaken_13 rfl 1 rfl ?_
      refine g_iconst C 0 d_MO_markTaken_14 (by decide) ?_
      obtain ⟨i2, h⟩ := h
      refine g_zast C 8 1 (ws2 := wM ad X (s.1, ua s.2 7 (upd (s.2 7) x1.toNatClampNeg (vp_nar .boolean 0)))) rfl rfl i2 rfl d_MO_markTaken_15 ?_
      obtain ⟨v3, e_v3⟩ : ∃ y : Int32, y = x1 + 1 := ⟨_, rfl⟩
      have h := h v3 e_v3
      refine g_iinc C (v := v3) (lv2 := [(0, .ref (ad 0)), (1, .int v3)]) d_MO_markTaken_16 1 rfl (by rw [e_v3]; rfl) (by decide) rfl ?_
      refine g_goto C 2 d_MO_markTaken_19 (by decide) ?_
      exact ih v3 (s.1, ua s.2 7 (upd (s.2 7) x1.toNatClampNeg (vp_nar .boolean 0))) h
def wl_M_SpillQueueModel_markTaken_59 (Q : gS → Prop) (K : Int32 → Int32 → gS → Prop) (x1 : Int32) (x3 : Int32) : Nat → Int32 → Int32 → gS → Prop
  | 0, _, _, _ => False
  | n + 1, x2, x4, s => ((x3 ≤ x4 → K x2 x4 s) ∧ (¬ x3 ≤ x4 → vp_in x2 200 ∧ (wp_M_SpillQueueModel_at x2 1 (s.1, ua s.2 7 (upd (s.2 7) x2.toNatClampNeg (vp_nar .boolean 1))) (fun r17 s16 => ∀ v18 : Int32, v18 = x4 + 1 → wl_M_SpillQueueModel_markTaken_59 Q K x1 x3 n r17 v18 s16))))
set_option maxHeartbeats 4000000 in
set_option maxRecDepth 100000 in
theorem w_M_SpillQueueModel_markTaken_59 (X : gX) (ad : Nat → Nat) (Q : gS → Prop) (K : Int32 → Int32 → gS → Prop) (x1 : Int32) (x3 : Int32) (E : gE) (C : gC X E b_MO_markTaken 5 R_MO) (hRm : gRm E = rm_M_SpillQueueModel_markTaken) (r : gR X E b_MO_markTaken none (gBv (wM ad X) Q)) (hK : ∀ (x2 : Int32) (x4 : Int32) (s : gS), K x2 x4 s → gW X E 0 0 (wM ad X s) [(0, .ref (ad 0)), (1, .int x1), (2, .int x2), (3, .int x3), (4, .int x4)] 85 []) : ∀ (n : Nat) (x2 : Int32) (x4 : Int32) (s : gS), wl_M_SpillQueueModel_markTaken_59 Q K x1 x3 n x2 x4 s → gW X E 0 0 (wM ad X s) [(0, .ref (ad 0)), (1, .int x1), (2, .int x2), (3, .int x3), (4, .int x4)] 59 [] := by
  intro n
  induction n with
  | zero => intro x2 x4 s h; exact False.elim h
  | succ n ih =>
    intro x2 x4 s h
    have h : ((x3 ≤ x4 → K x2 x4 s) ∧ (¬ x3 ≤ x4 → vp_in x2 200 ∧ (wp_M_SpillQueueModel_at x2 1 (s.1, ua s.2 7 (upd (s.2 7) x2.toNatClampNeg (vp_nar .boolean 1))) (fun r17 s16 => ∀ v18 : Int32, v18 = x4 + 1 → wl_M_SpillQueueModel_markTaken_59 Q K x1 x3 n r17 v18 s16)))) := h
    refine g_iload C d_MO_markTaken_59 4 rfl ?_
    refine g_iload_n C d_MO_markTaken_61 rfl 3 rfl ?_
    refine g_icmp_ge C 85 d_MO_markTaken_62 (by decide) (fun c14 => ?_) (fun c14 => ?_)
    · have h := h.1 c14
      exact hK x2 x4 s h
    · have h := h.2 c14
      refine g_aload_n C d_MO_markTaken_65 rfl 0 rfl ?_
      refine g_get C (v := .ref (ad 8)) 0 20 iw_MO rfl rfl (by decide) (gt 751 (by decide +kernel) rfl) rfl rfl d_MO_markTaken_66 ?_
      refine g_iload_n C d_MO_markTaken_69 rfl 2 rfl ?_
      refine g_iconst C 1 d_MO_markTaken_70 (by decide) ?_
      obtain ⟨i15, h⟩ := h
      refine g_zast C 8 1 (ws2 := wM ad X (s.1, ua s.2 7 (upd (s.2 7) x2.toNatClampNeg (vp_nar .boolean 1)))) rfl rfl i15 rfl d_MO_markTaken_71 ?_
      refine g_aload_n C d_MO_markTaken_72 rfl 0 rfl ?_
      refine g_iload_n C d_MO_markTaken_73 rfl 2 rfl ?_
      refine g_iconst C 1 d_MO_markTaken_74 (by decide) ?_
      refine g_callV C (rest := []) 0 (fun l => m_M_SpillQueueModel_at X ad x2 1 (s.1, ua s.2 7 (upd (s.2 7) x2.toNatClampNeg (vp_nar .boolean 1))) _ h l) rfl rfl (gt 840 (by decide +kernel) rfl) cb_MO_at ⟨rfl, rfl⟩ (by rw [hRm]; decide) ⟨Nat.zero_le _, Nat.zero_le _⟩ rfl rfl (Nat.le_of_ble_eq_true rfl) d_MO_markTaken_75 (gki (fun r17 s16 h => ?_))
      refine g_istore_n C (lv2 := [(0, .ref (ad 0)), (1, .int x1), (2, .int r17), (3, .int x3), (4, .int x4)]) d_MO_markTaken_78 rfl (by decide) rfl ?_
      obtain ⟨v18, e_v18⟩ : ∃ y : Int32, y = x4 + 1 := ⟨_, rfl⟩
      have h := h v18 e_v18
      refine g_iinc C (v := v18) (lv2 := [(0, .ref (ad 0)), (1, .int x1), (2, .int r17), (3, .int x3), (4, .int v18)]) d_MO_markTaken_79 4 rfl (by rw [e_v18]; rfl) (by decide) rfl ?_
      refine g_goto C 59 d_MO_markTaken_82 (by decide) ?_
      exact ih r17 v18 s16 h
def wl_M_SpillQueueModel_markTaken_24 (Q : gS → Prop) (K : Int32 → gS → Prop) : Nat → Int32 → gS → Prop
  | 0, _, _ => False
  | n + 1, x1, s => (((s.1 12) ≤ x1 → K x1 s) ∧ (¬ (s.1 12) ≤ x1 → vp_in x1 16 ∧ (∀ v9 : Int32, v9 = s.2 2 x1.toNatClampNeg → vp_in x1 16 ∧ (vp_in x1 16 ∧ (wp_M_SpillQueueModel_blocksOf (s.2 3 x1.toNatClampNeg) (s.2 4 x1.toNatClampNeg) s (fun r13 s12 => ∃ n19 : Nat, wl_M_SpillQueueModel_markTaken_59 Q (fun v21 v22 s20 => ∀ v23 : Int32, v23 = x1 + 1 → wl_M_SpillQueueModel_markTaken_24 Q K n v23 s20) x1 r13 n19 v9 0 s12))))))
set_option maxHeartbeats 4000000 in
set_option maxRecDepth 100000 in
theorem w_M_SpillQueueModel_markTaken_24 (X : gX) (ad : Nat → Nat) (Q : gS → Prop) (K : Int32 → gS → Prop) (E : gE) (C : gC X E b_MO_markTaken 5 R_MO) (hRm : gRm E = rm_M_SpillQueueModel_markTaken) (r : gR X E b_MO_markTaken none (gBv (wM ad X) Q)) (hK : ∀ (x1 : Int32) (s : gS), K x1 s → gW X E 0 0 (wM ad X s) [(0, .ref (ad 0)), (1, .int x1)] 91 []) : ∀ (n : Nat) (x1 : Int32) (s : gS), wl_M_SpillQueueModel_markTaken_24 Q K n x1 s → gW X E 0 0 (wM ad X s) [(0, .ref (ad 0)), (1, .int x1)] 24 [] := by
  intro n
  induction n with
  | zero => intro x1 s h; exact False.elim h
  | succ n ih =>
    intro x1 s h
    have h : (((s.1 12) ≤ x1 → K x1 s) ∧ (¬ (s.1 12) ≤ x1 → vp_in x1 16 ∧ (∀ v9 : Int32, v9 = s.2 2 x1.toNatClampNeg → vp_in x1 16 ∧ (vp_in x1 16 ∧ (wp_M_SpillQueueModel_blocksOf (s.2 3 x1.toNatClampNeg) (s.2 4 x1.toNatClampNeg) s (fun r13 s12 => ∃ n19 : Nat, wl_M_SpillQueueModel_markTaken_59 Q (fun v21 v22 s20 => ∀ v23 : Int32, v23 = x1 + 1 → wl_M_SpillQueueModel_markTaken_24 Q K n v23 s20) x1 r13 n19 v9 0 s12)))))) := h
    refine g_iload_n C d_MO_markTaken_24 rfl 1 rfl ?_
    refine g_aload_n C d_MO_markTaken_25 rfl 0 rfl ?_
    refine g_get C (v := .int (s.1 12)) 0 14 iw_MO rfl rfl (by decide) (gt 745 (by decide +kernel) rfl) rfl rfl d_MO_markTaken_26 ?_
    refine g_icmp_ge C 91 d_MO_markTaken_29 (by decide) (fun c7 => ?_) (fun c7 => ?_)
    · have h := h.1 c7
      exact hK x1 s h
    · have h := h.2 c7
      refine g_aload_n C d_MO_markTaken_32 rfl 0 rfl ?_
      refine g_get C (v := .ref (ad 3)) 0 15 iw_MO rfl rfl (by decide) (gt 746 (by decide +kernel) rfl) rfl rfl d_MO_markTaken_33 ?_
      refine g_iload_n C d_MO_markTaken_36 rfl 1 rfl ?_
      obtain ⟨i8, h⟩ := h
      refine g_iald C 3 0 rfl rfl i8 d_MO_markTaken_37 ?_
      refine g_topi (fun v9 e_v9 => ?_)
      have h := h v9 e_v9
      refine g_istore_n C (lv2 := [(0, .ref (ad 0)), (1, .int x1), (2, .int v9)]) d_MO_markTaken_38 rfl (by decide) rfl ?_
      refine g_aload_n C d_MO_markTaken_39 rfl 0 rfl ?_
      refine g_aload_n C d_MO_markTaken_40 rfl 0 rfl ?_
      refine g_get C (v := .ref (ad 4)) 0 16 iw_MO rfl rfl (by decide) (gt 747 (by decide +kernel) rfl) rfl rfl d_MO_markTaken_41 ?_
      refine g_iload_n C d_MO_markTaken_44 rfl 1 rfl ?_
      obtain ⟨i10, h⟩ := h
      refine g_iald C 4 0 rfl rfl i10 d_MO_markTaken_45 ?_
      refine g_aload_n C d_MO_markTaken_46 rfl 0 rfl ?_
      refine g_get C (v := .ref (ad 5)) 0 17 iw_MO rfl rfl (by decide) (gt 748 (by decide +kernel) rfl) rfl rfl d_MO_markTaken_47 ?_
      refine g_iload_n C d_MO_markTaken_50 rfl 1 rfl ?_
      obtain ⟨i11, h⟩ := h
      refine g_iald C 5 0 rfl rfl i11 d_MO_markTaken_51 ?_
      refine g_callV C (rest := []) 0 (fun l => m_M_SpillQueueModel_blocksOf X ad (s.2 3 x1.toNatClampNeg) (s.2 4 x1.toNatClampNeg) s _ h l) rfl rfl (gt 848 (by decide +kernel) rfl) cb_MO_blocksOf ⟨rfl, rfl⟩ (by rw [hRm]; decide) ⟨Nat.zero_le _, Nat.zero_le _⟩ rfl rfl (Nat.le_of_ble_eq_true rfl) d_MO_markTaken_52 (gki (fun r13 s12 h => ?_))
      refine g_istore_n C (lv2 := [(0, .ref (ad 0)), (1, .int x1), (2, .int v9), (3, .int r13)]) d_MO_markTaken_55 rfl (by decide) rfl ?_
      refine g_iconst C 0 d_MO_markTaken_56 (by decide) ?_
      refine g_istore C (lv2 := [(0, .ref (ad 0)), (1, .int x1), (2, .int v9), (3, .int r13), (4, .int 0)]) d_MO_markTaken_57 (by decide) rfl ?_
      obtain ⟨n19, h⟩ := h
      refine w_M_SpillQueueModel_markTaken_59 X ad Q (_) x1 r13 E C hRm r ?_ n19 v9 0 s12 h
      intro v21 v22 s20 h
      obtain ⟨v23, e_v23⟩ : ∃ y : Int32, y = x1 + 1 := ⟨_, rfl⟩
      have h := h v23 e_v23
      refine g_iinc C (v := v23) (lv2 := [(0, .ref (ad 0)), (1, .int v23), (2, .int v21), (3, .int r13), (4, .int v22)]) d_MO_markTaken_85 1 rfl (by rw [e_v23]; rfl) (by decide) rfl ?_
      refine g_goto C 24 d_MO_markTaken_88 (by decide) ?_
      refine g_lv C [0, 1] rfl ?_
      exact ih v23 s20 h
def wp_M_SpillQueueModel_markTaken (s : gS) (Q : gS → Prop) : Prop := ∃ n4 : Nat, wl_M_SpillQueueModel_markTaken_2 Q (fun v6 s5 => ∃ n24 : Nat, wl_M_SpillQueueModel_markTaken_24 Q (fun v26 s25 => Q s25)  n24 0 s5)  n4 0 s
set_option maxHeartbeats 4000000 in
set_option maxRecDepth 100000 in
theorem w_M_SpillQueueModel_markTaken (X : gX) (ad : Nat → Nat) (s : gS) (Q : gS → Prop) (h : wp_M_SpillQueueModel_markTaken  s Q) (E : gE) (C : gC X E b_MO_markTaken 5 R_MO) (hRm : gRm E = rm_M_SpillQueueModel_markTaken) (r : gR X E b_MO_markTaken none (gBv (wM ad X) Q)) : gW X E 0 0 (wM ad X s) [(0, .ref (ad 0))] 0 [] := by
  have h : ∃ n4 : Nat, wl_M_SpillQueueModel_markTaken_2 Q (fun v6 s5 => ∃ n24 : Nat, wl_M_SpillQueueModel_markTaken_24 Q (fun v26 s25 => Q s25)  n24 0 s5)  n4 0 s := h
  refine g_iconst C 0 d_MO_markTaken_0 (by decide) ?_
  refine g_istore_n C (lv2 := [(0, .ref (ad 0)), (1, .int 0)]) d_MO_markTaken_1 rfl (by decide) rfl ?_
  obtain ⟨n4, h⟩ := h
  refine w_M_SpillQueueModel_markTaken_2 X ad Q (_)  E C hRm r ?_ n4 0 s h
  intro v6 s5 h
  refine g_iconst C 0 d_MO_markTaken_22 (by decide) ?_
  refine g_istore_n C (lv2 := [(0, .ref (ad 0)), (1, .int 0)]) d_MO_markTaken_23 rfl (by decide) rfl ?_
  obtain ⟨n24, h⟩ := h
  refine w_M_SpillQueueModel_markTaken_24 X ad Q (_)  E C hRm r ?_ n24 0 s5 h
  intro v26 s25 h
  exact g_vret r d_MO_markTaken_91 (gBv_mk h)
theorem m_M_SpillQueueModel_markTaken (X : gX) (ad : Nat → Nat) (s : gS) (Q : gS → Prop) (h : wp_M_SpillQueueModel_markTaken  s Q) (l : Launch) : gM l X y_MO_markTaken b_MO_markTaken 5 none rm_M_SpillQueueModel_markTaken [.ref (ad 0)] (wM ad X s) (gBv (wM ad X) Q) :=
  gM_of (by decide +kernel) rfl (Nat.le_of_ble_eq_true rfl) rfl (fun E C hRm r => w_M_SpillQueueModel_markTaken X ad  s Q h E C hRm r)
def rm_M_SpillQueueModel_writeSuper : Room := { frames := 3, cells := 0, slots := 0, locals := 67 }
def wl_M_SpillQueueModel_writeSuper_28 (Q : gS → Prop) (K : Int32 → gS → Prop) : Nat → Int32 → gS → Prop
  | 0, _, _ => False
  | n + 1, x1, s => (((s.1 12) ≤ x1 → K x1 s) ∧ (¬ (s.1 12) ≤ x1 → vp_in x1 16 ∧ (∀ v10 : Int32, v10 = s.2 2 x1.toNatClampNeg → vp_in (3 + (4 * x1)) 40 ∧ (vp_in x1 16 ∧ (∀ v13 : Int32, v13 = s.2 3 x1.toNatClampNeg → vp_in (4 + (4 * x1)) 40 ∧ (∀ f15 : Nat → Int32, f15 = upd (s.2 8) (3 + (4 * x1)).toNatClampNeg v10 → vp_in x1 16 ∧ (∀ v17 : Int32, v17 = s.2 4 x1.toNatClampNeg → vp_in (5 + (4 * x1)) 40 ∧ (∀ f19 : Nat → Int32, f19 = upd f15 (4 + (4 * x1)).toNatClampNeg v13 → vp_in x1 16 ∧ (∀ v21 : Int32, v21 = s.2 5 x1.toNatClampNeg → vp_in (6 + (4 * x1)) 40 ∧ (∀ f23 : Nat → Int32, f23 = upd f19 (5 + (4 * x1)).toNatClampNeg v17 → ∀ v24 : Int32, v24 = x1 + 1 → wl_M_SpillQueueModel_writeSuper_28 Q K n v24 (s.1, ua s.2 8 (upd f23 (6 + (4 * x1)).toNatClampNeg v21))))))))))))
set_option maxHeartbeats 4000000 in
set_option maxRecDepth 100000 in
theorem w_M_SpillQueueModel_writeSuper_28 (X : gX) (ad : Nat → Nat) (Q : gS → Prop) (K : Int32 → gS → Prop) (E : gE) (C : gC X E b_MO_writeSuper 2 R_MO) (hRm : gRm E = rm_M_SpillQueueModel_writeSuper) (r : gR X E b_MO_writeSuper none (gBv (wM ad X) Q)) (hK : ∀ (x1 : Int32) (s : gS), K x1 s → gW X E 0 0 (wM ad X s) [(0, .ref (ad 0)), (1, .int x1)] 107 []) : ∀ (n : Nat) (x1 : Int32) (s : gS), wl_M_SpillQueueModel_writeSuper_28 Q K n x1 s → gW X E 0 0 (wM ad X s) [(0, .ref (ad 0)), (1, .int x1)] 28 [] := by
  intro n
  induction n with
  | zero => intro x1 s h; exact False.elim h
  | succ n ih =>
    intro x1 s h
    have h : (((s.1 12) ≤ x1 → K x1 s) ∧ (¬ (s.1 12) ≤ x1 → vp_in x1 16 ∧ (∀ v10 : Int32, v10 = s.2 2 x1.toNatClampNeg → vp_in (3 + (4 * x1)) 40 ∧ (vp_in x1 16 ∧ (∀ v13 : Int32, v13 = s.2 3 x1.toNatClampNeg → vp_in (4 + (4 * x1)) 40 ∧ (∀ f15 : Nat → Int32, f15 = upd (s.2 8) (3 + (4 * x1)).toNatClampNeg v10 → vp_in x1 16 ∧ (∀ v17 : Int32, v17 = s.2 4 x1.toNatClampNeg → vp_in (5 + (4 * x1)) 40 ∧ (∀ f19 : Nat → Int32, f19 = upd f15 (4 + (4 * x1)).toNatClampNeg v13 → vp_in x1 16 ∧ (∀ v21 : Int32, v21 = s.2 5 x1.toNatClampNeg → vp_in (6 + (4 * x1)) 40 ∧ (∀ f23 : Nat → Int32, f23 = upd f19 (5 + (4 * x1)).toNatClampNeg v17 → ∀ v24 : Int32, v24 = x1 + 1 → wl_M_SpillQueueModel_writeSuper_28 Q K n v24 (s.1, ua s.2 8 (upd f23 (6 + (4 * x1)).toNatClampNeg v21)))))))))))) := h
    refine g_iload_n C d_MO_writeSuper_28 rfl 1 rfl ?_
    refine g_aload_n C d_MO_writeSuper_29 rfl 0 rfl ?_
    refine g_get C (v := .int (s.1 12)) 0 14 iw_MO rfl rfl (by decide) (gt 745 (by decide +kernel) rfl) rfl rfl d_MO_writeSuper_30 ?_
    refine g_icmp_ge C 107 d_MO_writeSuper_33 (by decide) (fun c8 => ?_) (fun c8 => ?_)
    · have h := h.1 c8
      exact hK x1 s h
    · have h := h.2 c8
      refine g_aload_n C d_MO_writeSuper_36 rfl 0 rfl ?_
      refine g_get C (v := .ref (ad 9)) 0 21 iw_MO rfl rfl (by decide) (gt 752 (by decide +kernel) rfl) rfl rfl d_MO_writeSuper_37 ?_
      refine g_iconst C 3 d_MO_writeSuper_40 (by decide) ?_
      refine g_iconst C 4 d_MO_writeSuper_41 (by decide) ?_
      refine g_iload_n C d_MO_writeSuper_42 rfl 1 rfl ?_
      refine g_imul C d_MO_writeSuper_43 ?_
      refine g_iadd C d_MO_writeSuper_44 ?_
      refine g_aload_n C d_MO_writeSuper_45 rfl 0 rfl ?_
      refine g_get C (v := .ref (ad 3)) 0 15 iw_MO rfl rfl (by decide) (gt 746 (by decide +kernel) rfl) rfl rfl d_MO_writeSuper_46 ?_
      refine g_iload_n C d_MO_writeSuper_49 rfl 1 rfl ?_
      obtain ⟨i9, h⟩ := h
      refine g_iald C 3 0 rfl rfl i9 d_MO_writeSuper_50 ?_
      refine g_topi (fun v10 e_v10 => ?_)
      have h := h v10 e_v10
      obtain ⟨i11, h⟩ := h
      refine g_iast C 9 0 (ws2 := wM ad X (s.1, ua s.2 8 (upd (s.2 8) (3 + (4 * x1)).toNatClampNeg v10))) rfl rfl i11 rfl d_MO_writeSuper_51 ?_
      refine g_aload_n C d_MO_writeSuper_52 rfl 0 rfl ?_
      refine g_get C (v := .ref (ad 9)) 0 21 iw_MO rfl rfl (by decide) (gt 752 (by decide +kernel) rfl) rfl rfl d_MO_writeSuper_53 ?_
      refine g_iconst C 4 d_MO_writeSuper_56 (by decide) ?_
      refine g_iconst C 4 d_MO_writeSuper_57 (by decide) ?_
      refine g_iload_n C d_MO_writeSuper_58 rfl 1 rfl ?_
      refine g_imul C d_MO_writeSuper_59 ?_
      refine g_iadd C d_MO_writeSuper_60 ?_
      refine g_aload_n C d_MO_writeSuper_61 rfl 0 rfl ?_
      refine g_get C (v := .ref (ad 4)) 0 16 iw_MO rfl rfl (by decide) (gt 747 (by decide +kernel) rfl) rfl rfl d_MO_writeSuper_62 ?_
      refine g_iload_n C d_MO_writeSuper_65 rfl 1 rfl ?_
      obtain ⟨i12, h⟩ := h
      refine g_iald C 4 0 rfl rfl i12 d_MO_writeSuper_66 ?_
      refine g_topi (fun v13 e_v13 => ?_)
      have h := h v13 e_v13
      obtain ⟨i14, h⟩ := h
      obtain ⟨f15, e_f15⟩ : ∃ f : Nat → Int32, f = upd (s.2 8) (3 + (4 * x1)).toNatClampNeg v10 := ⟨_, rfl⟩
      have h := h f15 e_f15
      refine g_w (ws2 := wM ad X (s.1, ua s.2 8 (f15))) (by rw [e_f15]) ?_
      refine g_iast C 9 0 (ws2 := wM ad X (s.1, ua s.2 8 (upd f15 (4 + (4 * x1)).toNatClampNeg v13))) rfl rfl i14 rfl d_MO_writeSuper_67 ?_
      refine g_aload_n C d_MO_writeSuper_68 rfl 0 rfl ?_
      refine g_get C (v := .ref (ad 9)) 0 21 iw_MO rfl rfl (by decide) (gt 752 (by decide +kernel) rfl) rfl rfl d_MO_writeSuper_69 ?_
      refine g_iconst C 5 d_MO_writeSuper_72 (by decide) ?_
      refine g_iconst C 4 d_MO_writeSuper_73 (by decide) ?_
      refine g_iload_n C d_MO_writeSuper_74 rfl 1 rfl ?_
      refine g_imul C d_MO_writeSuper_75 ?_
      refine g_iadd C d_MO_writeSuper_76 ?_
      refine g_aload_n C d_MO_writeSuper_77 rfl 0 rfl ?_
      refine g_get C (v := .ref (ad 5)) 0 17 iw_MO rfl rfl (by decide) (gt 748 (by decide +kernel) rfl) rfl rfl d_MO_writeSuper_78 ?_
      refine g_iload_n C d_MO_writeSuper_81 rfl 1 rfl ?_
      obtain ⟨i16, h⟩ := h
      refine g_iald C 5 0 rfl rfl i16 d_MO_writeSuper_82 ?_
      refine g_topi (fun v17 e_v17 => ?_)
      have h := h v17 e_v17
      obtain ⟨i18, h⟩ := h
      obtain ⟨f19, e_f19⟩ : ∃ f : Nat → Int32, f = upd f15 (4 + (4 * x1)).toNatClampNeg v13 := ⟨_, rfl⟩
      have h := h f19 e_f19
      refine g_w (ws2 := wM ad X (s.1, ua s.2 8 (f19))) (by rw [e_f19]) ?_
      refine g_iast C 9 0 (ws2 := wM ad X (s.1, ua s.2 8 (upd f19 (5 + (4 * x1)).toNatClampNeg v17))) rfl rfl i18 rfl d_MO_writeSuper_83 ?_
      refine g_aload_n C d_MO_writeSuper_84 rfl 0 rfl ?_
      refine g_get C (v := .ref (ad 9)) 0 21 iw_MO rfl rfl (by decide) (gt 752 (by decide +kernel) rfl) rfl rfl d_MO_writeSuper_85 ?_
      refine g_bipush C 6 d_MO_writeSuper_88 (by decide) ?_
      refine g_iconst C 4 d_MO_writeSuper_90 (by decide) ?_
      refine g_iload_n C d_MO_writeSuper_91 rfl 1 rfl ?_
      refine g_imul C d_MO_writeSuper_92 ?_
      refine g_iadd C d_MO_writeSuper_93 ?_
      refine g_aload_n C d_MO_writeSuper_94 rfl 0 rfl ?_
      refine g_get C (v := .ref (ad 6)) 0 18 iw_MO rfl rfl (by decide) (gt 749 (by decide +kernel) rfl) rfl rfl d_MO_writeSuper_95 ?_
      refine g_iload_n C d_MO_writeSuper_98 rfl 1 rfl ?_
      obtain ⟨i20, h⟩ := h
      refine g_iald C 6 0 rfl rfl i20 d_MO_writeSuper_99 ?_
      refine g_topi (fun v21 e_v21 => ?_)
      have h := h v21 e_v21
      obtain ⟨i22, h⟩ := h
      obtain ⟨f23, e_f23⟩ : ∃ f : Nat → Int32, f = upd f19 (5 + (4 * x1)).toNatClampNeg v17 := ⟨_, rfl⟩
      have h := h f23 e_f23
      refine g_w (ws2 := wM ad X (s.1, ua s.2 8 (f23))) (by rw [e_f23]) ?_
      refine g_iast C 9 0 (ws2 := wM ad X (s.1, ua s.2 8 (upd f23 (6 + (4 * x1)).toNatClampNeg v21))) rfl rfl i22 rfl d_MO_writeSuper_100 ?_
      obtain ⟨v24, e_v24⟩ : ∃ y : Int32, y = x1 + 1 := ⟨_, rfl⟩
      have h := h v24 e_v24
      refine g_iinc C (v := v24) (lv2 := [(0, .ref (ad 0)), (1, .int v24)]) d_MO_writeSuper_101 1 rfl (by rw [e_v24]; rfl) (by decide) rfl ?_
      refine g_goto C 28 d_MO_writeSuper_104 (by decide) ?_
      exact ih v24 (s.1, ua s.2 8 (upd f23 (6 + (4 * x1)).toNatClampNeg v21)) h
def wl_M_SpillQueueModel_writeSuper_143 (Q : gS → Prop) (K : Int32 → gS → Prop) : Nat → Int32 → gS → Prop
  | 0, _, _ => False
  | n + 1, x1, s => ((200 ≤ x1 → K x1 s) ∧ (¬ 200 ≤ x1 → vp_in x1 200 ∧ (∀ v36 : Int32, v36 = s.2 7 x1.toNatClampNeg → vp_in x1 200 ∧ (∀ v38 : Int32, v38 = x1 + 1 → wl_M_SpillQueueModel_writeSuper_143 Q K n v38 (s.1, ua s.2 6 (upd (s.2 6) x1.toNatClampNeg (vp_nar .boolean v36)))))))
set_option maxHeartbeats 4000000 in
set_option maxRecDepth 100000 in
theorem w_M_SpillQueueModel_writeSuper_143 (X : gX) (ad : Nat → Nat) (Q : gS → Prop) (K : Int32 → gS → Prop) (E : gE) (C : gC X E b_MO_writeSuper 2 R_MO) (hRm : gRm E = rm_M_SpillQueueModel_writeSuper) (r : gR X E b_MO_writeSuper none (gBv (wM ad X) Q)) (hK : ∀ (x1 : Int32) (s : gS), K x1 s → gW X E 0 0 (wM ad X s) [(0, .ref (ad 0)), (1, .int x1)] 168 []) : ∀ (n : Nat) (x1 : Int32) (s : gS), wl_M_SpillQueueModel_writeSuper_143 Q K n x1 s → gW X E 0 0 (wM ad X s) [(0, .ref (ad 0)), (1, .int x1)] 143 [] := by
  intro n
  induction n with
  | zero => intro x1 s h; exact False.elim h
  | succ n ih =>
    intro x1 s h
    have h : ((200 ≤ x1 → K x1 s) ∧ (¬ 200 ≤ x1 → vp_in x1 200 ∧ (∀ v36 : Int32, v36 = s.2 7 x1.toNatClampNeg → vp_in x1 200 ∧ (∀ v38 : Int32, v38 = x1 + 1 → wl_M_SpillQueueModel_writeSuper_143 Q K n v38 (s.1, ua s.2 6 (upd (s.2 6) x1.toNatClampNeg (vp_nar .boolean v36))))))) := h
    refine g_iload_n C d_MO_writeSuper_143 rfl 1 rfl ?_
    refine g_sipush C 200 d_MO_writeSuper_144 (by decide) ?_
    refine g_icmp_ge C 168 d_MO_writeSuper_147 (by decide) (fun c34 => ?_) (fun c34 => ?_)
    · have h := h.1 c34
      exact hK x1 s h
    · have h := h.2 c34
      refine g_aload_n C d_MO_writeSuper_150 rfl 0 rfl ?_
      refine g_get C (v := .ref (ad 7)) 0 19 iw_MO rfl rfl (by decide) (gt 750 (by decide +kernel) rfl) rfl rfl d_MO_writeSuper_151 ?_
      refine g_iload_n C d_MO_writeSuper_154 rfl 1 rfl ?_
      refine g_aload_n C d_MO_writeSuper_155 rfl 0 rfl ?_
      refine g_get C (v := .ref (ad 8)) 0 20 iw_MO rfl rfl (by decide) (gt 751 (by decide +kernel) rfl) rfl rfl d_MO_writeSuper_156 ?_
      refine g_iload_n C d_MO_writeSuper_159 rfl 1 rfl ?_
      obtain ⟨i35, h⟩ := h
      refine g_zald C 8 1 rfl rfl i35 d_MO_writeSuper_160 ?_
      refine g_topi (fun v36 e_v36 => ?_)
      have h := h v36 e_v36
      obtain ⟨i37, h⟩ := h
      refine g_zast C 7 1 (ws2 := wM ad X (s.1, ua s.2 6 (upd (s.2 6) x1.toNatClampNeg (vp_nar .boolean v36)))) rfl rfl i37 rfl d_MO_writeSuper_161 ?_
      obtain ⟨v38, e_v38⟩ : ∃ y : Int32, y = x1 + 1 := ⟨_, rfl⟩
      have h := h v38 e_v38
      refine g_iinc C (v := v38) (lv2 := [(0, .ref (ad 0)), (1, .int v38)]) d_MO_writeSuper_162 1 rfl (by rw [e_v38]; rfl) (by decide) rfl ?_
      refine g_goto C 143 d_MO_writeSuper_165 (by decide) ?_
      exact ih v38 (s.1, ua s.2 6 (upd (s.2 6) x1.toNatClampNeg (vp_nar .boolean v36))) h
def wp_M_SpillQueueModel_writeSuper (s : gS) (Q : gS → Prop) : Prop := wp_M_SpillQueueModel_clearRow s (fun s1 => ∀ v3 : Int32, v3 = (s1.1 11) + 1 → vp_in 1 40 ∧ (∀ v5 : Int32, v5 = s1.1 12 → vp_in 2 40 ∧ (∀ f7 : Nat → Int32, f7 = upd (s1.2 8) (1 : Int32).toNatClampNeg v3 → ∃ n25 : Nat, wl_M_SpillQueueModel_writeSuper_28 Q (fun v27 s26 => wp_M_SpillQueueModel_write (((s26.1 11) + 1) &&& 1) s26 (fun s28 => (((s28.1 9) = 0 → ∀ v31 : Int32, v31 = (s28.1 11) + 1 → wp_M_SpillQueueModel_markTaken (up s28.1 11 (v31), s28.2) (fun s32 => ∃ n39 : Nat, wl_M_SpillQueueModel_writeSuper_143 Q (fun v41 s40 => Q s40)  n39 0 s32)) ∧ (¬ (s28.1 9) = 0 → Q s28))))  n25 0 (s1.1, ua s1.2 8 (upd f7 (2 : Int32).toNatClampNeg v5)))))
set_option maxHeartbeats 4000000 in
set_option maxRecDepth 100000 in
theorem w_M_SpillQueueModel_writeSuper (X : gX) (ad : Nat → Nat) (s : gS) (Q : gS → Prop) (h : wp_M_SpillQueueModel_writeSuper  s Q) (E : gE) (C : gC X E b_MO_writeSuper 2 R_MO) (hRm : gRm E = rm_M_SpillQueueModel_writeSuper) (r : gR X E b_MO_writeSuper none (gBv (wM ad X) Q)) : gW X E 0 0 (wM ad X s) [(0, .ref (ad 0))] 0 [] := by
  have h : wp_M_SpillQueueModel_clearRow s (fun s1 => ∀ v3 : Int32, v3 = (s1.1 11) + 1 → vp_in 1 40 ∧ (∀ v5 : Int32, v5 = s1.1 12 → vp_in 2 40 ∧ (∀ f7 : Nat → Int32, f7 = upd (s1.2 8) (1 : Int32).toNatClampNeg v3 → ∃ n25 : Nat, wl_M_SpillQueueModel_writeSuper_28 Q (fun v27 s26 => wp_M_SpillQueueModel_write (((s26.1 11) + 1) &&& 1) s26 (fun s28 => (((s28.1 9) = 0 → ∀ v31 : Int32, v31 = (s28.1 11) + 1 → wp_M_SpillQueueModel_markTaken (up s28.1 11 (v31), s28.2) (fun s32 => ∃ n39 : Nat, wl_M_SpillQueueModel_writeSuper_143 Q (fun v41 s40 => Q s40)  n39 0 s32)) ∧ (¬ (s28.1 9) = 0 → Q s28))))  n25 0 (s1.1, ua s1.2 8 (upd f7 (2 : Int32).toNatClampNeg v5))))) := h
  refine g_aload_n C d_MO_writeSuper_0 rfl 0 rfl ?_
  refine g_callV C (rest := []) 0 (fun l => m_M_SpillQueueModel_clearRow X ad  s _ h l) rfl rfl (gt 828 (by decide +kernel) rfl) cb_MO_clearRow ⟨rfl, rfl⟩ (by rw [hRm]; decide) ⟨Nat.zero_le _, Nat.zero_le _⟩ rfl rfl (Nat.le_of_ble_eq_true rfl) d_MO_writeSuper_1 (gkv (fun s1 h => ?_))
  refine g_aload_n C d_MO_writeSuper_4 rfl 0 rfl ?_
  refine g_get C (v := .ref (ad 9)) 0 21 iw_MO rfl rfl (by decide) (gt 752 (by decide +kernel) rfl) rfl rfl d_MO_writeSuper_5 ?_
  refine g_iconst C 1 d_MO_writeSuper_8 (by decide) ?_
  refine g_aload_n C d_MO_writeSuper_9 rfl 0 rfl ?_
  refine g_get C (v := .int (s1.1 11)) 0 13 iw_MO rfl rfl (by decide) (gt 744 (by decide +kernel) rfl) rfl rfl d_MO_writeSuper_10 ?_
  refine g_iconst C 1 d_MO_writeSuper_13 (by decide) ?_
  refine g_iadd C d_MO_writeSuper_14 ?_
  refine g_topi (fun v3 e_v3 => ?_)
  have h := h v3 e_v3
  obtain ⟨i4, h⟩ := h
  refine g_iast C 9 0 (ws2 := wM ad X (s1.1, ua s1.2 8 (upd (s1.2 8) (1 : Int32).toNatClampNeg v3))) rfl rfl i4 rfl d_MO_writeSuper_15 ?_
  refine g_aload_n C d_MO_writeSuper_16 rfl 0 rfl ?_
  refine g_get C (v := .ref (ad 9)) 0 21 iw_MO rfl rfl (by decide) (gt 752 (by decide +kernel) rfl) rfl rfl d_MO_writeSuper_17 ?_
  refine g_iconst C 2 d_MO_writeSuper_20 (by decide) ?_
  refine g_aload_n C d_MO_writeSuper_21 rfl 0 rfl ?_
  refine g_get C (v := .int (s1.1 12)) 0 14 iw_MO rfl rfl (by decide) (gt 745 (by decide +kernel) rfl) rfl rfl d_MO_writeSuper_22 ?_
  refine g_topi (fun v5 e_v5 => ?_)
  have h := h v5 e_v5
  obtain ⟨i6, h⟩ := h
  obtain ⟨f7, e_f7⟩ : ∃ f : Nat → Int32, f = upd (s1.2 8) (1 : Int32).toNatClampNeg v3 := ⟨_, rfl⟩
  have h := h f7 e_f7
  refine g_w (ws2 := wM ad X (s1.1, ua s1.2 8 (f7))) (by rw [e_f7]) ?_
  refine g_iast C 9 0 (ws2 := wM ad X (s1.1, ua s1.2 8 (upd f7 (2 : Int32).toNatClampNeg v5))) rfl rfl i6 rfl d_MO_writeSuper_25 ?_
  refine g_iconst C 0 d_MO_writeSuper_26 (by decide) ?_
  refine g_istore_n C (lv2 := [(0, .ref (ad 0)), (1, .int 0)]) d_MO_writeSuper_27 rfl (by decide) rfl ?_
  obtain ⟨n25, h⟩ := h
  refine w_M_SpillQueueModel_writeSuper_28 X ad Q (_)  E C hRm r ?_ n25 0 (s1.1, ua s1.2 8 (upd f7 (2 : Int32).toNatClampNeg v5)) h
  intro v27 s26 h
  refine g_aload_n C d_MO_writeSuper_107 rfl 0 rfl ?_
  refine g_aload_n C d_MO_writeSuper_108 rfl 0 rfl ?_
  refine g_get C (v := .int (s26.1 11)) 0 13 iw_MO rfl rfl (by decide) (gt 744 (by decide +kernel) rfl) rfl rfl d_MO_writeSuper_109 ?_
  refine g_iconst C 1 d_MO_writeSuper_112 (by decide) ?_
  refine g_iadd C d_MO_writeSuper_113 ?_
  refine g_iconst C 1 d_MO_writeSuper_114 (by decide) ?_
  refine g_iand C d_MO_writeSuper_115 ?_
  refine g_callV C (rest := []) 0 (fun l => m_M_SpillQueueModel_write X ad (((s26.1 11) + 1) &&& 1) s26 _ h l) rfl rfl (gt 832 (by decide +kernel) rfl) cb_MO_write ⟨rfl, rfl⟩ (by rw [hRm]; decide) ⟨Nat.zero_le _, Nat.zero_le _⟩ rfl rfl (Nat.le_of_ble_eq_true rfl) d_MO_writeSuper_116 (gkv (fun s28 h => ?_))
  refine g_aload_n C d_MO_writeSuper_119 rfl 0 rfl ?_
  refine g_get C (v := .int (s28.1 9)) 0 10 iw_MO rfl rfl (by decide) (gt 741 (by decide +kernel) rfl) rfl rfl d_MO_writeSuper_120 ?_
  refine g_if_eq C 127 d_MO_writeSuper_123 (by decide) (fun c30 => ?_) (fun c30 => ?_)
  · have h := h.1 c30
    refine g_aload_n C d_MO_writeSuper_127 rfl 0 rfl ?_
    refine g_dup C rfl d_MO_writeSuper_128 ?_
    refine g_get C (v := .int (s28.1 11)) 0 13 iw_MO rfl rfl (by decide) (gt 744 (by decide +kernel) rfl) rfl rfl d_MO_writeSuper_129 ?_
    refine g_iconst C 1 d_MO_writeSuper_132 (by decide) ?_
    refine g_iadd C d_MO_writeSuper_133 ?_
    refine g_topi (fun v31 e_v31 => ?_)
    have h := h v31 e_v31
    refine g_put C (ws2 := wM ad X (up s28.1 11 (v31), s28.2)) 0 13 iw_MO ty_MO tyok_MO nm_MO rfl rfl (by decide) (gt 744 (by decide +kernel) rfl) rfl rfl rfl rfl (Nat.le_of_ble_eq_true rfl) rfl d_MO_writeSuper_134 ?_
    refine g_aload_n C d_MO_writeSuper_137 rfl 0 rfl ?_
    refine g_callV C (rest := []) 0 (fun l => m_M_SpillQueueModel_markTaken X ad  (up s28.1 11 (v31), s28.2) _ h l) rfl rfl (gt 844 (by decide +kernel) rfl) cb_MO_markTaken ⟨rfl, rfl⟩ (by rw [hRm]; decide) ⟨Nat.zero_le _, Nat.zero_le _⟩ rfl rfl (Nat.le_of_ble_eq_true rfl) d_MO_writeSuper_138 (gkv (fun s32 h => ?_))
    refine g_iconst C 0 d_MO_writeSuper_141 (by decide) ?_
    refine g_istore_n C (lv2 := [(0, .ref (ad 0)), (1, .int 0)]) d_MO_writeSuper_142 rfl (by decide) rfl ?_
    obtain ⟨n39, h⟩ := h
    refine w_M_SpillQueueModel_writeSuper_143 X ad Q (_)  E C hRm r ?_ n39 0 s32 h
    intro v41 s40 h
    exact g_vret r d_MO_writeSuper_168 (gBv_mk h)
  · have h := h.2 c30
    exact g_vret r d_MO_writeSuper_126 (gBv_mk h)
theorem m_M_SpillQueueModel_writeSuper (X : gX) (ad : Nat → Nat) (s : gS) (Q : gS → Prop) (h : wp_M_SpillQueueModel_writeSuper  s Q) (l : Launch) : gM l X y_MO_writeSuper b_MO_writeSuper 2 none rm_M_SpillQueueModel_writeSuper [.ref (ad 0)] (wM ad X s) (gBv (wM ad X) Q) :=
  gM_of (by decide +kernel) rfl (Nat.le_of_ble_eq_true rfl) rfl (fun E C hRm r => w_M_SpillQueueModel_writeSuper X ad  s Q h E C hRm r)
