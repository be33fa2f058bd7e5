def rm_M_SpillQueueModel_takeFromMemory : Room := { frames := 0, cells := 0, slots := 0, locals := 0 }
def wl_M_SpillQueueModel_takeFromMemory_4 (Q : Int32 → gS → Prop) (K : Int32 → Int32 → gS → Prop) : Nat → Int32 → Int32 → gS → Prop
  | 0, _, _, _ => False
  | n + 1, x1, x2, s => (((s.1 10) ≤ x2 → K x1 x2 s) ∧ (¬ (s.1 10) ≤ x2 → vp_in x2 100 ∧ (vp_in x1 100 ∧ ((((s.2 1 x1.toNatClampNeg) ≤ (s.2 1 x2.toNatClampNeg) → ∀ v5 : Int32, v5 = x2 + 1 → wl_M_SpillQueueModel_takeFromMemory_4 Q K n x1 v5 s) ∧ (¬ (s.2 1 x1.toNatClampNeg) ≤ (s.2 1 x2.toNatClampNeg) → ∀ v6 : Int32, v6 = x2 + 1 → wl_M_SpillQueueModel_takeFromMemory_4 Q K n x2 v6 s))))))
set_option maxHeartbeats 4000000 in
set_option maxRecDepth 100000 in
theorem w_M_SpillQueueModel_takeFromMemory_4 (X : gX) (ad : Nat → Nat) (Q : Int32 → gS → Prop) (K : Int32 → Int32 → gS → Prop) (E : gE) (C : gC X E b_MO_takeFromMemory 3 R_MO) (hRm : gRm E = rm_M_SpillQueueModel_takeFromMemory) (r : gR X E b_MO_takeFromMemory (some .int) (gBi (wM ad X) Q)) (hK : ∀ (x1 : Int32) (x2 : Int32) (s : gS), K x1 x2 s → gW X E 0 0 (wM ad X s) [(0, .ref (ad 0)), (1, .int x1), (2, .int x2)] 39 []) : ∀ (n : Nat) (x1 : Int32) (x2 : Int32) (s : gS), wl_M_SpillQueueModel_takeFromMemory_4 Q K n x1 x2 s → gW X E 0 0 (wM ad X s) [(0, .ref (ad 0)), (1, .int x1), (2, .int x2)] 4 [] := by
  intro n
  induction n with
  | zero => intro x1 x2 s h; exact False.elim h
  | succ n ih =>
    intro x1 x2 s h
    have h : (((s.1 10) ≤ x2 → K x1 x2 s) ∧ (¬ (s.1 10) ≤ x2 → vp_in x2 100 ∧ (vp_in x1 100 ∧ ((((s.2 1 x1.toNatClampNeg) ≤ (s.2 1 x2.toNatClampNeg) → ∀ v5 : Int32, v5 = x2 + 1 → wl_M_SpillQueueModel_takeFromMemory_4 Q K n x1 v5 s) ∧ (¬ (s.2 1 x1.toNatClampNeg) ≤ (s.2 1 x2.toNatClampNeg) → ∀ v6 : Int32, v6 = x2 + 1 → wl_M_SpillQueueModel_takeFromMemory_4 Q K n x2 v6 s)))))) := h
    refine g_iload_n C d_MO_takeFromMemory_4 rfl 2 rfl ?_
    refine g_aload_n C d_MO_takeFromMemory_5 rfl 0 rfl ?_
    refine g_get C (v := .int (s.1 10)) 0 11 iw_MO rfl rfl (by decide) (gt 742 (by decide +kernel) rfl) rfl rfl d_MO_takeFromMemory_6 ?_
    refine g_icmp_ge C 39 d_MO_takeFromMemory_9 (by decide) (fun c1 => ?_) (fun c1 => ?_)
    · have h := h.1 c1
      exact hK x1 x2 s h
    · have h := h.2 c1
      refine g_aload_n C d_MO_takeFromMemory_12 rfl 0 rfl ?_
      refine g_get C (v := .ref (ad 2)) 0 12 iw_MO rfl rfl (by decide) (gt 743 (by decide +kernel) rfl) rfl rfl d_MO_takeFromMemory_13 ?_
      refine g_iload_n C d_MO_takeFromMemory_16 rfl 2 rfl ?_
      obtain ⟨i2, h⟩ := h
      refine g_iald C 2 0 rfl rfl i2 d_MO_takeFromMemory_17 ?_
      refine g_aload_n C d_MO_takeFromMemory_18 rfl 0 rfl ?_
      refine g_get C (v := .ref (ad 2)) 0 12 iw_MO rfl rfl (by decide) (gt 743 (by decide +kernel) rfl) rfl rfl d_MO_takeFromMemory_19 ?_
      refine g_iload_n C d_MO_takeFromMemory_22 rfl 1 rfl ?_
      obtain ⟨i3, h⟩ := h
      refine g_iald C 2 0 rfl rfl i3 d_MO_takeFromMemory_23 ?_
      refine g_icmp_ge C 31 d_MO_takeFromMemory_24 (by decide) (fun c4 => ?_) (fun c4 => ?_)
      · have h := h.1 c4
        refine g_iload_n C d_MO_takeFromMemory_31 rfl 1 rfl ?_
        refine g_istore_n C (lv2 := [(0, .ref (ad 0)), (1, .int x1), (2, .int x2)]) d_MO_takeFromMemory_32 rfl (by decide) rfl ?_
        obtain ⟨v5, e_v5⟩ : ∃ y : Int32, y = x2 + 1 := ⟨_, rfl⟩
        have h := h v5 e_v5
        refine g_iinc C (v := v5) (lv2 := [(0, .ref (ad 0)), (1, .int x1), (2, .int v5)]) d_MO_takeFromMemory_33 2 rfl (by rw [e_v5]; rfl) (by decide) rfl ?_
        refine g_goto C 4 d_MO_takeFromMemory_36 (by decide) ?_
        exact ih x1 v5 s h
      · have h := h.2 c4
        refine g_iload_n C d_MO_takeFromMemory_27 rfl 2 rfl ?_
        refine g_goto C 32 d_MO_takeFromMemory_28 (by decide) ?_
        refine g_istore_n C (lv2 := [(0, .ref (ad 0)), (1, .int x2), (2, .int x2)]) d_MO_takeFromMemory_32 rfl (by decide) rfl ?_
        obtain ⟨v6, e_v6⟩ : ∃ y : Int32, y = x2 + 1 := ⟨_, rfl⟩
        have h := h v6 e_v6
        refine g_iinc C (v := v6) (lv2 := [(0, .ref (ad 0)), (1, .int x2), (2, .int v6)]) d_MO_takeFromMemory_33 2 rfl (by rw [e_v6]; rfl) (by decide) rfl ?_
        refine g_goto C 4 d_MO_takeFromMemory_36 (by decide) ?_
        exact ih x2 v6 s h
def wp_M_SpillQueueModel_takeFromMemory (s : gS) (Q : Int32 → gS → Prop) : Prop := ∃ n7 : Nat, wl_M_SpillQueueModel_takeFromMemory_4 Q (fun v9 v10 s8 => vp_in v9 100 ∧ (∀ v12 : Int32, v12 = s8.2 1 v9.toNatClampNeg → ∀ v13 : Int32, v13 = (s8.1 10) - 1 → vp_in v13 100 ∧ (∀ v15 : Int32, v15 = s8.2 1 v13.toNatClampNeg → vp_in v9 100 ∧ (Q v12 (up s8.1 10 (v13), ua s8.2 1 (upd (s8.2 1) v9.toNatClampNeg v15))))))  n7 0 1 s
set_option maxHeartbeats 4000000 in
set_option maxRecDepth 100000 in
theorem w_M_SpillQueueModel_takeFromMemory (X : gX) (ad : Nat → Nat) (s : gS) (Q : Int32 → gS → Prop) (h : wp_M_SpillQueueModel_takeFromMemory  s Q) (E : gE) (C : gC X E b_MO_takeFromMemory 3 R_MO) (hRm : gRm E = rm_M_SpillQueueModel_takeFromMemory) (r : gR X E b_MO_takeFromMemory (some .int) (gBi (wM ad X) Q)) : gW X E 0 0 (wM ad X s) [(0, .ref (ad 0))] 0 [] := by
  have h : ∃ n7 : Nat, wl_M_SpillQueueModel_takeFromMemory_4 Q (fun v9 v10 s8 => vp_in v9 100 ∧ (∀ v12 : Int32, v12 = s8.2 1 v9.toNatClampNeg → ∀ v13 : Int32, v13 = (s8.1 10) - 1 → vp_in v13 100 ∧ (∀ v15 : Int32, v15 = s8.2 1 v13.toNatClampNeg → vp_in v9 100 ∧ (Q v12 (up s8.1 10 (v13), ua s8.2 1 (upd (s8.2 1) v9.toNatClampNeg v15))))))  n7 0 1 s := h
  refine g_iconst C 0 d_MO_takeFromMemory_0 (by decide) ?_
  refine g_istore_n C (lv2 := [(0, .ref (ad 0)), (1, .int 0)]) d_MO_takeFromMemory_1 rfl (by decide) rfl ?_
  refine g_iconst C 1 d_MO_takeFromMemory_2 (by decide) ?_
  refine g_istore_n C (lv2 := [(0, .ref (ad 0)), (1, .int 0), (2, .int 1)]) d_MO_takeFromMemory_3 rfl (by decide) rfl ?_
  obtain ⟨n7, h⟩ := h
  refine w_M_SpillQueueModel_takeFromMemory_4 X ad Q (_)  E C hRm r ?_ n7 0 1 s h
  intro v9 v10 s8 h
  refine g_aload_n C d_MO_takeFromMemory_39 rfl 0 rfl ?_
  refine g_get C (v := .ref (ad 2)) 0 12 iw_MO rfl rfl (by decide) (gt 743 (by decide +kernel) rfl) rfl rfl d_MO_takeFromMemory_40 ?_
  refine g_iload_n C d_MO_takeFromMemory_43 rfl 1 rfl ?_
  obtain ⟨i11, h⟩ := h
  refine g_iald C 2 0 rfl rfl i11 d_MO_takeFromMemory_44 ?_
  refine g_topi (fun v12 e_v12 => ?_)
  have h := h v12 e_v12
  refine g_istore_n C (lv2 := [(0, .ref (ad 0)), (1, .int v9), (2, .int v12)]) d_MO_takeFromMemory_45 rfl (by decide) rfl ?_
  refine g_aload_n C d_MO_takeFromMemory_46 rfl 0 rfl ?_
  refine g_dup C rfl d_MO_takeFromMemory_47 ?_
  refine g_get C (v := .int (s8.1 10)) 0 11 iw_MO rfl rfl (by decide) (gt 742 (by decide +kernel) rfl) rfl rfl d_MO_takeFromMemory_48 ?_
  refine g_iconst C 1 d_MO_takeFromMemory_51 (by decide) ?_
  refine g_isub C d_MO_takeFromMemory_52 ?_
  refine g_topi (fun v13 e_v13 => ?_)
  have h := h v13 e_v13
  refine g_put C (ws2 := wM ad X (up s8.1 10 (v13), s8.2)) 0 11 iw_MO ty_MO tyok_MO nm_MO rfl rfl (by decide) (gt 742 (by decide +kernel) rfl) rfl rfl rfl rfl (Nat.le_of_ble_eq_true rfl) rfl d_MO_takeFromMemory_53 ?_
  refine g_aload_n C d_MO_takeFromMemory_56 rfl 0 rfl ?_
  refine g_get C (v := .ref (ad 2)) 0 12 iw_MO rfl rfl (by decide) (gt 743 (by decide +kernel) rfl) rfl rfl d_MO_takeFromMemory_57 ?_
  refine g_iload_n C d_MO_takeFromMemory_60 rfl 1 rfl ?_
  refine g_aload_n C d_MO_takeFromMemory_61 rfl 0 rfl ?_
  refine g_get C (v := .ref (ad 2)) 0 12 iw_MO rfl rfl (by decide) (gt 743 (by decide +kernel) rfl) rfl rfl d_MO_takeFromMemory_62 ?_
  refine g_aload_n C d_MO_takeFromMemory_65 rfl 0 rfl ?_
  refine g_get C (v := .int v13) 0 11 iw_MO rfl rfl (by decide) (gt 742 (by decide +kernel) rfl) rfl rfl d_MO_takeFromMemory_66 ?_
  obtain ⟨i14, h⟩ := h
  refine g_iald C 2 0 rfl rfl i14 d_MO_takeFromMemory_69 ?_
  refine g_topi (fun v15 e_v15 => ?_)
  have h := h v15 e_v15
  obtain ⟨i16, h⟩ := h
  refine g_iast C 2 0 (ws2 := wM ad X (up s8.1 10 (v13), ua s8.2 1 (upd (s8.2 1) v9.toNatClampNeg v15))) rfl rfl i16 rfl d_MO_takeFromMemory_70 ?_
  refine g_iload_n C d_MO_takeFromMemory_71 rfl 2 rfl ?_
  exact g_iret r rfl d_MO_takeFromMemory_72 (gBi_mk h)
theorem m_M_SpillQueueModel_takeFromMemory (X : gX) (ad : Nat → Nat) (s : gS) (Q : Int32 → gS → Prop) (h : wp_M_SpillQueueModel_takeFromMemory  s Q) (l : Launch) : gM l X y_MO_takeFromMemory b_MO_takeFromMemory 3 (some .int) rm_M_SpillQueueModel_takeFromMemory [.ref (ad 0)] (wM ad X s) (gBi (wM ad X) Q) :=
  gM_of (by decide +kernel) rfl (Nat.le_of_ble_eq_true rfl) rfl (fun E C hRm r => w_M_SpillQueueModel_takeFromMemory X ad  s Q h E C hRm r)
def rm_M_SpillQueueModel_writeKeys : Room := { frames := 3, cells := 0, slots := 0, locals := 67 }
def wl_M_SpillQueueModel_writeKeys_60 (Q : gS → Prop) (K : Int32 → Int32 → gS → Prop) (x1 : Int32) (x2 : Int32) (x3 : Int32) (x5 : Int32) : Nat → Int32 → Int32 → gS → Prop
  | 0, _, _, _ => False
  | n + 1, x4, x6, s => wp_M_SpillQueueModel_room s (fun r10 s9 => ((r10 ≤ x6 → K x4 x6 s9) ∧ (¬ r10 ≤ x6 → ((x4 ≤ 0 → K x4 x6 s9) ∧ (¬ x4 ≤ 0 → ((x2 = 0 → wp_M_SpillQueueModel_takeFromRuns s9 (fun r15 s14 => vp_in (2 + x6) 40 ∧ (∀ v17 : Int32, v17 = x4 + Int32.ofInt (-1) → ∀ v18 : Int32, v18 = x6 + 1 → wl_M_SpillQueueModel_writeKeys_60 Q K x1 x2 x3 x5 n v17 v18 (s14.1, ua s14.2 8 (upd (s14.2 8) (2 + x6).toNatClampNeg r15))))) ∧ (¬ x2 = 0 → wp_M_SpillQueueModel_takeFromMemory s9 (fun r20 s19 => vp_in (2 + x6) 40 ∧ (∀ v22 : Int32, v22 = x4 + Int32.ofInt (-1) → ∀ v23 : Int32, v23 = x6 + 1 → wl_M_SpillQueueModel_writeKeys_60 Q K x1 x2 x3 x5 n v22 v23 (s19.1, ua s19.2 8 (upd (s19.2 8) (2 + x6).toNatClampNeg r20)))))))))))
set_option maxHeartbeats 4000000 in
set_option maxRecDepth 100000 in
theorem w_M_SpillQueueModel_writeKeys_60 (X : gX) (ad : Nat → Nat) (Q : gS → Prop) (K : Int32 → Int32 → gS → Prop) (x1 : Int32) (x2 : Int32) (x3 : Int32) (x5 : Int32) (E : gE) (C : gC X E b_MO_writeKeys 7 R_MO) (hRm : gRm E = rm_M_SpillQueueModel_writeKeys) (r : gR X E b_MO_writeKeys none (gBv (wM ad X) Q)) (hK : ∀ (x4 : Int32) (x6 : Int32) (s : gS), K x4 x6 s → gW X E 0 0 (wM ad X s) [(0, .ref (ad 0)), (1, .int x1), (2, .int x2), (3, .int x3), (4, .int x4), (5, .int x5), (6, .int x6)] 107 []) : ∀ (n : Nat) (x4 : Int32) (x6 : Int32) (s : gS), wl_M_SpillQueueModel_writeKeys_60 Q K x1 x2 x3 x5 n x4 x6 s → gW X E 0 0 (wM ad X s) [(0, .ref (ad 0)), (1, .int x1), (2, .int x2), (3, .int x3), (4, .int x4), (5, .int x5), (6, .int x6)] 60 [] := by
  intro n
  induction n with
  | zero => intro x4 x6 s h; exact False.elim h
  | succ n ih =>
    intro x4 x6 s h
    have h : wp_M_SpillQueueModel_room s (fun r10 s9 => ((r10 ≤ x6 → K x4 x6 s9) ∧ (¬ r10 ≤ x6 → ((x4 ≤ 0 → K x4 x6 s9) ∧ (¬ x4 ≤ 0 → ((x2 = 0 → wp_M_SpillQueueModel_takeFromRuns s9 (fun r15 s14 => vp_in (2 + x6) 40 ∧ (∀ v17 : Int32, v17 = x4 + Int32.ofInt (-1) → ∀ v18 : Int32, v18 = x6 + 1 → wl_M_SpillQueueModel_writeKeys_60 Q K x1 x2 x3 x5 n v17 v18 (s14.1, ua s14.2 8 (upd (s14.2 8) (2 + x6).toNatClampNeg r15))))) ∧ (¬ x2 = 0 → wp_M_SpillQueueModel_takeFromMemory s9 (fun r20 s19 => vp_in (2 + x6) 40 ∧ (∀ v22 : Int32, v22 = x4 + Int32.ofInt (-1) → ∀ v23 : Int32, v23 = x6 + 1 → wl_M_SpillQueueModel_writeKeys_60 Q K x1 x2 x3 x5 n v22 v23 (s19.1, ua s19.2 8 (upd (s19.2 8) (2 + x6).toNatClampNeg r20))))))))))) := h
    refine g_iload C d_MO_writeKeys_60 6 rfl ?_
    refine g_aload_n C d_MO_writeKeys_62 rfl 0 rfl ?_
    refine g_callV C (rest := [.int x6]) 0 (fun l => m_M_SpillQueueModel_room X ad  s _ h l) rfl rfl (gt 852 (by decide +kernel) rfl) cb_MO_room ⟨rfl, rfl⟩ (by rw [hRm]; decide) ⟨Nat.zero_le _, Nat.zero_le _⟩ rfl rfl (Nat.le_of_ble_eq_true rfl) d_MO_writeKeys_63 (gki (fun r10 s9 h => ?_))
    refine g_icmp_ge C 107 d_MO_writeKeys_66 (by decide) (fun c11 => ?_) (fun c11 => ?_)
    · have h := h.1 c11
      exact hK x4 x6 s9 h
    · have h := h.2 c11
      refine g_iload C d_MO_writeKeys_69 4 rfl ?_
      refine g_if_le C 107 d_MO_writeKeys_71 (by decide) (fun c12 => ?_) (fun c12 => ?_)
      · have h := h.1 c12
        exact hK x4 x6 s9 h
      · have h := h.2 c12
        refine g_aload_n C d_MO_writeKeys_74 rfl 0 rfl ?_
        refine g_get C (v := .ref (ad 9)) 0 21 iw_MO rfl rfl (by decide) (gt 752 (by decide +kernel) rfl) rfl rfl d_MO_writeKeys_75 ?_
        refine g_iconst C 2 d_MO_writeKeys_78 (by decide) ?_
        refine g_iload C d_MO_writeKeys_79 6 rfl ?_
        refine g_iadd C d_MO_writeKeys_81 ?_
        refine g_iload_n C d_MO_writeKeys_82 rfl 2 rfl ?_
        refine g_if_eq C 93 d_MO_writeKeys_83 (by decide) (fun c13 => ?_) (fun c13 => ?_)
        · have h := h.1 c13
          refine g_aload_n C d_MO_writeKeys_93 rfl 0 rfl ?_
          refine g_callV C (rest := [.int (2 + x6), .ref (ad 9)]) 0 (fun l => m_M_SpillQueueModel_takeFromRuns X ad  s9 _ h l) rfl rfl (gt 896 (by decide +kernel) rfl) cb_MO_takeFromRuns ⟨rfl, rfl⟩ (by rw [hRm]; decide) ⟨Nat.zero_le _, Nat.zero_le _⟩ rfl rfl (Nat.le_of_ble_eq_true rfl) d_MO_writeKeys_94 (gki (fun r15 s14 h => ?_))
          obtain ⟨i16, h⟩ := h
          refine g_iast C 9 0 (ws2 := wM ad X (s14.1, ua s14.2 8 (upd (s14.2 8) (2 + x6).toNatClampNeg r15))) rfl rfl i16 rfl d_MO_writeKeys_97 ?_
          obtain ⟨v17, e_v17⟩ : ∃ y : Int32, y = x4 + Int32.ofInt (-1) := ⟨_, rfl⟩
          have h := h v17 e_v17
          refine g_iinc C (v := v17) (lv2 := [(0, .ref (ad 0)), (1, .int x1), (2, .int x2), (3, .int x3), (4, .int v17), (5, .int x5), (6, .int x6)]) d_MO_writeKeys_98 4 rfl e_v17.symm (by decide) rfl ?_
          obtain ⟨v18, e_v18⟩ : ∃ y : Int32, y = x6 + 1 := ⟨_, rfl⟩
          have h := h v18 e_v18
          refine g_iinc C (v := v18) (lv2 := [(0, .ref (ad 0)), (1, .int x1), (2, .int x2), (3, .int x3), (4, .int v17), (5, .int x5), (6, .int v18)]) d_MO_writeKeys_101 6 rfl (by rw [e_v18]; rfl) (by decide) rfl ?_
          refine g_goto C 60 d_MO_writeKeys_104 (by decide) ?_
          exact ih v17 v18 (s14.1, ua s14.2 8 (upd (s14.2 8) (2 + x6).toNatClampNeg r15)) h
        · have h := h.2 c13
          refine g_aload_n C d_MO_writeKeys_86 rfl 0 rfl ?_
          refine g_callV C (rest := [.int (2 + x6), .ref (ad 9)]) 0 (fun l => m_M_SpillQueueModel_takeFromMemory X ad  s9 _ h l) rfl rfl (gt 892 (by decide +kernel) rfl) cb_MO_takeFromMemory ⟨rfl, rfl⟩ (by rw [hRm]; decide) ⟨Nat.zero_le _, Nat.zero_le _⟩ rfl rfl (Nat.le_of_ble_eq_true rfl) d_MO_writeKeys_87 (gki (fun r20 s19 h => ?_))
          refine g_goto C 97 d_MO_writeKeys_90 (by decide) ?_
          obtain ⟨i21, h⟩ := h
          refine g_iast C 9 0 (ws2 := wM ad X (s19.1, ua s19.2 8 (upd (s19.2 8) (2 + x6).toNatClampNeg r20))) rfl rfl i21 rfl d_MO_writeKeys_97 ?_
          obtain ⟨v22, e_v22⟩ : ∃ y : Int32, y = x4 + Int32.ofInt (-1) := ⟨_, rfl⟩
          have h := h v22 e_v22
          refine g_iinc C (v := v22) (lv2 := [(0, .ref (ad 0)), (1, .int x1), (2, .int x2), (3, .int x3), (4, .int v22), (5, .int x5), (6, .int x6)]) d_MO_writeKeys_98 4 rfl e_v22.symm (by decide) rfl ?_
          obtain ⟨v23, e_v23⟩ : ∃ y : Int32, y = x6 + 1 := ⟨_, rfl⟩
          have h := h v23 e_v23
          refine g_iinc C (v := v23) (lv2 := [(0, .ref (ad 0)), (1, .int x1), (2, .int x2), (3, .int x3), (4, .int v22), (5, .int x5), (6, .int v23)]) d_MO_writeKeys_101 6 rfl (by rw [e_v23]; rfl) (by decide) rfl ?_
          refine g_goto C 60 d_MO_writeKeys_104 (by decide) ?_
          exact ih v22 v23 (s19.1, ua s19.2 8 (upd (s19.2 8) (2 + x6).toNatClampNeg r20)) h
def wl_M_SpillQueueModel_writeKeys_13 (Q : gS → Prop) (K : Int32 → Int32 → gS → Prop) (x1 : Int32) (x2 : Int32) (x3 : Int32) : Nat → Int32 → Int32 → gS → Prop
  | 0, _, _, _ => False
  | n + 1, x4, x5, s => ((x3 ≤ x5 → K x4 x5 s) ∧ (¬ x3 ≤ x5 → ((¬ (s.1 9) = 0 → K x4 x5 s) ∧ ((s.1 9) = 0 → wp_M_SpillQueueModel_clearRow s (fun s5 => ((x3 ≤ (x5 + 1) → vp_in 1 40 ∧ (∃ n24 : Nat, wl_M_SpillQueueModel_writeKeys_60 Q (fun v26 v27 s25 => vp_in x5 200 ∧ (wp_M_SpillQueueModel_write (s25.2 9 x5.toNatClampNeg) s25 (fun s29 => ∀ v31 : Int32, v31 = x5 + 1 → wl_M_SpillQueueModel_writeKeys_13 Q K x1 x2 x3 n v26 v31 s29))) x1 x2 x3 x5 n24 x4 0 (s5.1, ua s5.2 8 (upd (s5.2 8) (1 : Int32).toNatClampNeg 0)))) ∧ (¬ x3 ≤ (x5 + 1) → vp_in (x5 + 1) 200 ∧ (∀ v33 : Int32, v33 = s5.2 9 (x5 + 1).toNatClampNeg → vp_in 1 40 ∧ (∃ n35 : Nat, wl_M_SpillQueueModel_writeKeys_60 Q (fun v37 v38 s36 => vp_in x5 200 ∧ (wp_M_SpillQueueModel_write (s36.2 9 x5.toNatClampNeg) s36 (fun s40 => ∀ v42 : Int32, v42 = x5 + 1 → wl_M_SpillQueueModel_writeKeys_13 Q K x1 x2 x3 n v37 v42 s40))) x1 x2 x3 x5 n35 x4 0 (s5.1, ua s5.2 8 (upd (s5.2 8) (1 : Int32).toNatClampNeg v33)))))))))))
set_option maxHeartbeats 4000000 in
set_option maxRecDepth 100000 in
theorem w_M_SpillQueueModel_writeKeys_13 (X : gX) (ad : Nat → Nat) (Q : gS → Prop) (K : Int32 → Int32 → gS → Prop) (x1 : Int32) (x2 : Int32) (x3 : Int32) (E : gE) (C : gC X E b_MO_writeKeys 7 R_MO) (hRm : gRm E = rm_M_SpillQueueModel_writeKeys) (r : gR X E b_MO_writeKeys none (gBv (wM ad X) Q)) (hK : ∀ (x4 : Int32) (x5 : Int32) (s : gS), K x4 x5 s → gW X E 0 0 (wM ad X s) [(0, .ref (ad 0)), (1, .int x1), (2, .int x2), (3, .int x3), (4, .int x4), (5, .int x5)] 124 []) : ∀ (n : Nat) (x4 : Int32) (x5 : Int32) (s : gS), wl_M_SpillQueueModel_writeKeys_13 Q K x1 x2 x3 n x4 x5 s → gW X E 0 0 (wM ad X s) [(0, .ref (ad 0)), (1, .int x1), (2, .int x2), (3, .int x3), (4, .int x4), (5, .int x5)] 13 [] := by
  intro n
  induction n with
  | zero => intro x4 x5 s h; exact False.elim h
  | succ n ih =>
    intro x4 x5 s h
    have h : ((x3 ≤ x5 → K x4 x5 s) ∧ (¬ x3 ≤ x5 → ((¬ (s.1 9) = 0 → K x4 x5 s) ∧ ((s.1 9) = 0 → wp_M_SpillQueueModel_clearRow s (fun s5 => ((x3 ≤ (x5 + 1) → vp_in 1 40 ∧ (∃ n24 : Nat, wl_M_SpillQueueModel_writeKeys_60 Q (fun v26 v27 s25 => vp_in x5 200 ∧ (wp_M_SpillQueueModel_write (s25.2 9 x5.toNatClampNeg) s25 (fun s29 => ∀ v31 : Int32, v31 = x5 + 1 → wl_M_SpillQueueModel_writeKeys_13 Q K x1 x2 x3 n v26 v31 s29))) x1 x2 x3 x5 n24 x4 0 (s5.1, ua s5.2 8 (upd (s5.2 8) (1 : Int32).toNatClampNeg 0)))) ∧ (¬ x3 ≤ (x5 + 1) → vp_in (x5 + 1) 200 ∧ (∀ v33 : Int32, v33 = s5.2 9 (x5 + 1).toNatClampNeg → vp_in 1 40 ∧ (∃ n35 : Nat, wl_M_SpillQueueModel_writeKeys_60 Q (fun v37 v38 s36 => vp_in x5 200 ∧ (wp_M_SpillQueueModel_write (s36.2 9 x5.toNatClampNeg) s36 (fun s40 => ∀ v42 : Int32, v42 = x5 + 1 → wl_M_SpillQueueModel_writeKeys_13 Q K x1 x2 x3 n v37 v42 s40))) x1 x2 x3 x5 n35 x4 0 (s5.1, ua s5.2 8 (upd (s5.2 8) (1 : Int32).toNatClampNeg v33))))))))))) := h
    refine g_iload C d_MO_writeKeys_13 5 rfl ?_
    refine g_iload_n C d_MO_writeKeys_15 rfl 3 rfl ?_
    refine g_icmp_ge C 124 d_MO_writeKeys_16 (by decide) (fun c3 => ?_) (fun c3 => ?_)
    · have h := h.1 c3
      exact hK x4 x5 s h
    · have h := h.2 c3
      refine g_aload_n C d_MO_writeKeys_19 rfl 0 rfl ?_
      refine g_get C (v := .int (s.1 9)) 0 10 iw_MO rfl rfl (by decide) (gt 741 (by decide +kernel) rfl) rfl rfl d_MO_writeKeys_20 ?_
      refine g_if_ne C 124 d_MO_writeKeys_23 (by decide) (fun c4 => ?_) (fun c4 => ?_)
      · have h := h.1 c4
        exact hK x4 x5 s h
      · have h := h.2 c4
        refine g_aload_n C d_MO_writeKeys_26 rfl 0 rfl ?_
        refine g_callV C (rest := []) 0 (fun l => m_M_SpillQueueModel_clearRow X ad  s _ h l) rfl rfl (gt 828 (by decide +kernel) rfl) cb_MO_clearRow ⟨rfl, rfl⟩ (by rw [hRm]; decide) ⟨Nat.zero_le _, Nat.zero_le _⟩ rfl rfl (Nat.le_of_ble_eq_true rfl) d_MO_writeKeys_27 (gkv (fun s5 h => ?_))
        refine g_aload_n C d_MO_writeKeys_30 rfl 0 rfl ?_
        refine g_get C (v := .ref (ad 9)) 0 21 iw_MO rfl rfl (by decide) (gt 752 (by decide +kernel) rfl) rfl rfl d_MO_writeKeys_31 ?_
        refine g_iconst C 1 d_MO_writeKeys_34 (by decide) ?_
        refine g_iload C d_MO_writeKeys_35 5 rfl ?_
        refine g_iconst C 1 d_MO_writeKeys_37 (by decide) ?_
        refine g_iadd C d_MO_writeKeys_38 ?_
        refine g_iload_n C d_MO_writeKeys_39 rfl 3 rfl ?_
        refine g_icmp_ge C 55 d_MO_writeKeys_40 (by decide) (fun c7 => ?_) (fun c7 => ?_)
        · have h := h.1 c7
          refine g_iconst C 0 d_MO_writeKeys_55 (by decide) ?_
          obtain ⟨i8, h⟩ := h
          refine g_iast C 9 0 (ws2 := wM ad X (s5.1, ua s5.2 8 (upd (s5.2 8) (1 : Int32).toNatClampNeg 0))) rfl rfl i8 rfl d_MO_writeKeys_56 ?_
          refine g_iconst C 0 d_MO_writeKeys_57 (by decide) ?_
          refine g_istore C (lv2 := [(0, .ref (ad 0)), (1, .int x1), (2, .int x2), (3, .int x3), (4, .int x4), (5, .int x5), (6, .int 0)]) d_MO_writeKeys_58 (by decide) rfl ?_
          obtain ⟨n24, h⟩ := h
          refine w_M_SpillQueueModel_writeKeys_60 X ad Q (_) x1 x2 x3 x5 E C hRm r ?_ n24 x4 0 (s5.1, ua s5.2 8 (upd (s5.2 8) (1 : Int32).toNatClampNeg 0)) h
          intro v26 v27 s25 h
          refine g_aload_n C d_MO_writeKeys_107 rfl 0 rfl ?_
          refine g_aload_n C d_MO_writeKeys_108 rfl 0 rfl ?_
          refine g_get C (v := .ref (ad 10)) 0 22 iw_MO rfl rfl (by decide) (gt 753 (by decide +kernel) rfl) rfl rfl d_MO_writeKeys_109 ?_
          refine g_iload C d_MO_writeKeys_112 5 rfl ?_
          obtain ⟨i28, h⟩ := h
          refine g_iald C 10 0 rfl rfl i28 d_MO_writeKeys_114 ?_
          refine g_callV C (rest := []) 0 (fun l => m_M_SpillQueueModel_write X ad (s25.2 9 x5.toNatClampNeg) s25 _ h l) rfl rfl (gt 832 (by decide +kernel) rfl) cb_MO_write ⟨rfl, rfl⟩ (by rw [hRm]; decide) ⟨Nat.zero_le _, Nat.zero_le _⟩ rfl rfl (Nat.le_of_ble_eq_true rfl) d_MO_writeKeys_115 (gkv (fun s29 h => ?_))
          obtain ⟨v31, e_v31⟩ : ∃ y : Int32, y = x5 + 1 := ⟨_, rfl⟩
          have h := h v31 e_v31
          refine g_iinc C (v := v31) (lv2 := [(0, .ref (ad 0)), (1, .int x1), (2, .int x2), (3, .int x3), (4, .int v26), (5, .int v31), (6, .int v27)]) d_MO_writeKeys_118 5 rfl (by rw [e_v31]; rfl) (by decide) rfl ?_
          refine g_goto C 13 d_MO_writeKeys_121 (by decide) ?_
          refine g_lv C [0, 1, 2, 3, 4, 5] rfl ?_
          exact ih v26 v31 s29 h
        · have h := h.2 c7
          refine g_aload_n C d_MO_writeKeys_43 rfl 0 rfl ?_
          refine g_get C (v := .ref (ad 10)) 0 22 iw_MO rfl rfl (by decide) (gt 753 (by decide +kernel) rfl) rfl rfl d_MO_writeKeys_44 ?_
          refine g_iload C d_MO_writeKeys_47 5 rfl ?_
          refine g_iconst C 1 d_MO_writeKeys_49 (by decide) ?_
          refine g_iadd C d_MO_writeKeys_50 ?_
          obtain ⟨i32, h⟩ := h
          refine g_iald C 10 0 rfl rfl i32 d_MO_writeKeys_51 ?_
          refine g_goto C 56 d_MO_writeKeys_52 (by decide) ?_
          refine g_topi (fun v33 e_v33 => ?_)
          have h := h v33 e_v33
          obtain ⟨i34, h⟩ := h
          refine g_iast C 9 0 (ws2 := wM ad X (s5.1, ua s5.2 8 (upd (s5.2 8) (1 : Int32).toNatClampNeg v33))) rfl rfl i34 rfl d_MO_writeKeys_56 ?_
          refine g_iconst C 0 d_MO_writeKeys_57 (by decide) ?_
          refine g_istore C (lv2 := [(0, .ref (ad 0)), (1, .int x1), (2, .int x2), (3, .int x3), (4, .int x4), (5, .int x5), (6, .int 0)]) d_MO_writeKeys_58 (by decide) rfl ?_
          obtain ⟨n35, h⟩ := h
          refine w_M_SpillQueueModel_writeKeys_60 X ad Q (_) x1 x2 x3 x5 E C hRm r ?_ n35 x4 0 (s5.1, ua s5.2 8 (upd (s5.2 8) (1 : Int32).toNatClampNeg v33)) h
          intro v37 v38 s36 h
          refine g_aload_n C d_MO_writeKeys_107 rfl 0 rfl ?_
          refine g_aload_n C d_MO_writeKeys_108 rfl 0 rfl ?_
          refine g_get C (v := .ref (ad 10)) 0 22 iw_MO rfl rfl (by decide) (gt 753 (by decide +kernel) rfl) rfl rfl d_MO_writeKeys_109 ?_
          refine g_iload C d_MO_writeKeys_112 5 rfl ?_
          obtain ⟨i39, h⟩ := h
          refine g_iald C 10 0 rfl rfl i39 d_MO_writeKeys_114 ?_
          refine g_callV C (rest := []) 0 (fun l => m_M_SpillQueueModel_write X ad (s36.2 9 x5.toNatClampNeg) s36 _ h l) rfl rfl (gt 832 (by decide +kernel) rfl) cb_MO_write ⟨rfl, rfl⟩ (by rw [hRm]; decide) ⟨Nat.zero_le _, Nat.zero_le _⟩ rfl rfl (Nat.le_of_ble_eq_true rfl) d_MO_writeKeys_115 (gkv (fun s40 h => ?_))
          obtain ⟨v42, e_v42⟩ : ∃ y : Int32, y = x5 + 1 := ⟨_, rfl⟩
          have h := h v42 e_v42
          refine g_iinc C (v := v42) (lv2 := [(0, .ref (ad 0)), (1, .int x1), (2, .int x2), (3, .int x3), (4, .int v37), (5, .int v42), (6, .int v38)]) d_MO_writeKeys_118 5 rfl (by rw [e_v42]; rfl) (by decide) rfl ?_
          refine g_goto C 13 d_MO_writeKeys_121 (by decide) ?_
          refine g_lv C [0, 1, 2, 3, 4, 5] rfl ?_
          exact ih v37 v42 s40 h
def wp_M_SpillQueueModel_writeKeys (a1 : Int32) (a2 : Int32) (s : gS) (Q : gS → Prop) : Prop := wp_M_SpillQueueModel_blocksOf 0 a1 s (fun r2 s1 => ∃ n43 : Nat, wl_M_SpillQueueModel_writeKeys_13 Q (fun v45 v46 s44 => Q s44) a1 a2 r2 n43 a1 0 s1)
set_option maxHeartbeats 4000000 in
set_option maxRecDepth 100000 in
theorem w_M_SpillQueueModel_writeKeys (X : gX) (ad : Nat → Nat) (a1 : Int32) (a2 : Int32) (s : gS) (Q : gS → Prop) (h : wp_M_SpillQueueModel_writeKeys a1 a2 s Q) (E : gE) (C : gC X E b_MO_writeKeys 7 R_MO) (hRm : gRm E = rm_M_SpillQueueModel_writeKeys) (r : gR X E b_MO_writeKeys none (gBv (wM ad X) Q)) : gW X E 0 0 (wM ad X s) [(0, .ref (ad 0)), (1, .int a1), (2, .int a2)] 0 [] := by
  have h : wp_M_SpillQueueModel_blocksOf 0 a1 s (fun r2 s1 => ∃ n43 : Nat, wl_M_SpillQueueModel_writeKeys_13 Q (fun v45 v46 s44 => Q s44) a1 a2 r2 n43 a1 0 s1) := h
  refine g_aload_n C d_MO_writeKeys_0 rfl 0 rfl ?_
  refine g_iconst C 0 d_MO_writeKeys_1 (by decide) ?_
  refine g_iload_n C d_MO_writeKeys_2 rfl 1 rfl ?_
  refine g_callV C (rest := []) 0 (fun l => m_M_SpillQueueModel_blocksOf X ad 0 a1 s _ h l) rfl rfl (gt 848 (by decide +kernel) rfl) cb_MO_blocksOf ⟨rfl, rfl⟩ (by rw [hRm]; decide) ⟨Nat.zero_le _, Nat.zero_le _⟩ rfl rfl (Nat.le_of_ble_eq_true rfl) d_MO_writeKeys_3 (gki (fun r2 s1 h => ?_))
  refine g_istore_n C (lv2 := [(0, .ref (ad 0)), (1, .int a1), (2, .int a2), (3, .int r2)]) d_MO_writeKeys_6 rfl (by decide) rfl ?_
  refine g_iload_n C d_MO_writeKeys_7 rfl 1 rfl ?_
  refine g_istore C (lv2 := [(0, .ref (ad 0)), (1, .int a1), (2, .int a2), (3, .int r2), (4, .int a1)]) d_MO_writeKeys_8 (by decide) rfl ?_
  refine g_iconst C 0 d_MO_writeKeys_10 (by decide) ?_
  refine g_istore C (lv2 := [(0, .ref (ad 0)), (1, .int a1), (2, .int a2), (3, .int r2), (4, .int a1), (5, .int 0)]) d_MO_writeKeys_11 (by decide) rfl ?_
  obtain ⟨n43, h⟩ := h
  refine w_M_SpillQueueModel_writeKeys_13 X ad Q (_) a1 a2 r2 E C hRm r ?_ n43 a1 0 s1 h
  intro v45 v46 s44 h
  exact g_vret r d_MO_writeKeys_124 (gBv_mk h)
theorem m_M_SpillQueueModel_writeKeys (X : gX) (ad : Nat → Nat) (a1 : Int32) (a2 : Int32) (s : gS) (Q : gS → Prop) (h : wp_M_SpillQueueModel_writeKeys a1 a2 s Q) (l : Launch) : gM l X y_MO_writeKeys b_MO_writeKeys 7 none rm_M_SpillQueueModel_writeKeys [.ref (ad 0), .int a1, .int a2] (wM ad X s) (gBv (wM ad X) Q) :=
  gM_of (by decide +kernel) rfl (Nat.le_of_ble_eq_true rfl) rfl (fun E C hRm r => w_M_SpillQueueModel_writeKeys X ad a1 a2 s Q h E C hRm r)
def rm_M_SpillQueueModel_addRun : Room := { frames := 0, cells := 0, slots := 0, locals := 0 }
def wp_M_SpillQueueModel_addRun (a1 : Int32) (a2 : Int32) (a3 : Int32) (s : gS) (Q : gS → Prop) : Prop := vp_in (s.1 12) 16 ∧ (vp_in (s.1 12) 16 ∧ (vp_in (s.1 12) 16 ∧ (vp_in (s.1 12) 16 ∧ (∀ v5 : Int32, v5 = (s.1 12) + 1 → Q (up s.1 12 (v5), ua (ua (ua (ua s.2 2 (upd (s.2 2) (s.1 12).toNatClampNeg a1)) 3 (upd (s.2 3) (s.1 12).toNatClampNeg 0)) 4 (upd (s.2 4) (s.1 12).toNatClampNeg a2)) 5 (upd (s.2 5) (s.1 12).toNatClampNeg a3))))))
set_option maxHeartbeats 4000000 in
set_option maxRecDepth 100000 in
theorem w_M_SpillQueueModel_addRun (X : gX) (ad : Nat → Nat) (a1 : Int32) (a2 : Int32) (a3 : Int32) (s : gS) (Q : gS → Prop) (h : wp_M_SpillQueueModel_addRun a1 a2 a3 s Q) (E : gE) (C : gC X E b_MO_addRun 4 R_MO) (hRm : gRm E = rm_M_SpillQueueModel_addRun) (r : gR X E b_MO_addRun none (gBv (wM ad X) Q)) : gW X E 0 0 (wM ad X s) [(0, .ref (ad 0)), (1, .int a1), (2, .int a2), (3, .int a3)] 0 [] := by
  have h : vp_in (s.1 12) 16 ∧ (vp_in (s.1 12) 16 ∧ (vp_in (s.1 12) 16 ∧ (vp_in (s.1 12) 16 ∧ (∀ v5 : Int32, v5 = (s.1 12) + 1 → Q (up s.1 12 (v5), ua (ua (ua (ua s.2 2 (upd (s.2 2) (s.1 12).toNatClampNeg a1)) 3 (upd (s.2 3) (s.1 12).toNatClampNeg 0)) 4 (upd (s.2 4) (s.1 12).toNatClampNeg a2)) 5 (upd (s.2 5) (s.1 12).toNatClampNeg a3)))))) := h
  refine g_aload_n C d_MO_addRun_0 rfl 0 rfl ?_
  refine g_get C (v := .ref (ad 3)) 0 15 iw_MO rfl rfl (by decide) (gt 746 (by decide +kernel) rfl) rfl rfl d_MO_addRun_1 ?_
  refine g_aload_n C d_MO_addRun_4 rfl 0 rfl ?_
  refine g_get C (v := .int (s.1 12)) 0 14 iw_MO rfl rfl (by decide) (gt 745 (by decide +kernel) rfl) rfl rfl d_MO_addRun_5 ?_
  refine g_iload_n C d_MO_addRun_8 rfl 1 rfl ?_
  obtain ⟨i1, h⟩ := h
  refine g_iast C 3 0 (ws2 := wM ad X (s.1, ua s.2 2 (upd (s.2 2) (s.1 12).toNatClampNeg a1))) rfl rfl i1 rfl d_MO_addRun_9 ?_
  refine g_aload_n C d_MO_addRun_10 rfl 0 rfl ?_
  refine g_get C (v := .ref (ad 4)) 0 16 iw_MO rfl rfl (by decide) (gt 747 (by decide +kernel) rfl) rfl rfl d_MO_addRun_11 ?_
  refine g_aload_n C d_MO_addRun_14 rfl 0 rfl ?_
  refine g_get C (v := .int (s.1 12)) 0 14 iw_MO rfl rfl (by decide) (gt 745 (by decide +kernel) rfl) rfl rfl d_MO_addRun_15 ?_
  refine g_iconst C 0 d_MO_addRun_18 (by decide) ?_
  obtain ⟨i2, h⟩ := h
  refine g_iast C 4 0 (ws2 := wM ad X (s.1, ua (ua s.2 2 (upd (s.2 2) (s.1 12).toNatClampNeg a1)) 3 (upd (s.2 3) (s.1 12).toNatClampNeg 0))) rfl rfl i2 rfl d_MO_addRun_19 ?_
  refine g_aload_n C d_MO_addRun_20 rfl 0 rfl ?_
  refine g_get C (v := .ref (ad 5)) 0 17 iw_MO rfl rfl (by decide) (gt 748 (by decide +kernel) rfl) rfl rfl d_MO_addRun_21 ?_
  refine g_aload_n C d_MO_addRun_24 rfl 0 rfl ?_
  refine g_get C (v := .int (s.1 12)) 0 14 iw_MO rfl rfl (by decide) (gt 745 (by decide +kernel) rfl) rfl rfl d_MO_addRun_25 ?_
  refine g_iload_n C d_MO_addRun_28 rfl 2 rfl ?_
  obtain ⟨i3, h⟩ := h
  refine g_iast C 5 0 (ws2 := wM ad X (s.1, ua (ua (ua s.2 2 (upd (s.2 2) (s.1 12).toNatClampNeg a1)) 3 (upd (s.2 3) (s.1 12).toNatClampNeg 0)) 4 (upd (s.2 4) (s.1 12).toNatClampNeg a2))) rfl rfl i3 rfl d_MO_addRun_29 ?_
  refine g_aload_n C d_MO_addRun_30 rfl 0 rfl ?_
  refine g_get C (v := .ref (ad 6)) 0 18 iw_MO rfl rfl (by decide) (gt 749 (by decide +kernel) rfl) rfl rfl d_MO_addRun_31 ?_
  refine g_aload_n C d_MO_addRun_34 rfl 0 rfl ?_
  refine g_get C (v := .int (s.1 12)) 0 14 iw_MO rfl rfl (by decide) (gt 745 (by decide +kernel) rfl) rfl rfl d_MO_addRun_35 ?_
  refine g_iload_n C d_MO_addRun_38 rfl 3 rfl ?_
  obtain ⟨i4, h⟩ := h
  refine g_iast C 6 0 (ws2 := wM ad X (s.1, ua (ua (ua (ua s.2 2 (upd (s.2 2) (s.1 12).toNatClampNeg a1)) 3 (upd (s.2 3) (s.1 12).toNatClampNeg 0)) 4 (upd (s.2 4) (s.1 12).toNatClampNeg a2)) 5 (upd (s.2 5) (s.1 12).toNatClampNeg a3))) rfl rfl i4 rfl d_MO_addRun_39 ?_
  refine g_aload_n C d_MO_addRun_40 rfl 0 rfl ?_
  refine g_dup C rfl d_MO_addRun_41 ?_
  refine g_get C (v := .int (s.1 12)) 0 14 iw_MO rfl rfl (by decide) (gt 745 (by decide +kernel) rfl) rfl rfl d_MO_addRun_42 ?_
  refine g_iconst C 1 d_MO_addRun_45 (by decide) ?_
  refine g_iadd C d_MO_addRun_46 ?_
  refine g_topi (fun v5 e_v5 => ?_)
  have h := h v5 e_v5
  refine g_put C (ws2 := wM ad X (up s.1 12 (v5), ua (ua (ua (ua s.2 2 (upd (s.2 2) (s.1 12).toNatClampNeg a1)) 3 (upd (s.2 3) (s.1 12).toNatClampNeg 0)) 4 (upd (s.2 4) (s.1 12).toNatClampNeg a2)) 5 (upd (s.2 5) (s.1 12).toNatClampNeg a3))) 0 14 iw_MO ty_MO tyok_MO nm_MO rfl rfl (by decide) (gt 745 (by decide +kernel) rfl) rfl rfl rfl rfl (Nat.le_of_ble_eq_true rfl) rfl d_MO_addRun_47 ?_
  exact g_vret r d_MO_addRun_50 (gBv_mk h)
theorem m_M_SpillQueueModel_addRun (X : gX) (ad : Nat → Nat) (a1 : Int32) (a2 : Int32) (a3 : Int32) (s : gS) (Q : gS → Prop) (h : wp_M_SpillQueueModel_addRun a1 a2 a3 s Q) (l : Launch) : gM l X y_MO_addRun b_MO_addRun 4 none rm_M_SpillQueueModel_addRun [.ref (ad 0), .int a1, .int a2, .int a3] (wM ad X s) (gBv (wM ad X) Q) :=
  gM_of (by decide +kernel) rfl (Nat.le_of_ble_eq_true rfl) rfl (fun E C hRm r => w_M_SpillQueueModel_addRun X ad a1 a2 a3 s Q h E C hRm r)
def rm_M_SpillQueueModel_runsOf : Room := { frames := 0, cells := 0, slots := 0, locals := 0 }
def wl_M_SpillQueueModel_runsOf_4 (Q : Int32 → gS → Prop) (K : Int32 → Int32 → gS → Prop) (x1 : Int32) : Nat → Int32 → Int32 → gS → Prop
  | 0, _, _, _ => False
  | n + 1, x2, x3, s => (((s.1 12) ≤ x3 → K x2 x3 s) ∧ (¬ (s.1 12) ≤ x3 → vp_in x3 16 ∧ (((¬ (s.2 5 x3.toNatClampNeg) = x1 → ∀ v4 : Int32, v4 = x3 + 1 → wl_M_SpillQueueModel_runsOf_4 Q K x1 n x2 v4 s) ∧ ((s.2 5 x3.toNatClampNeg) = x1 → ∀ v5 : Int32, v5 = x2 + 1 → ∀ v6 : Int32, v6 = x3 + 1 → wl_M_SpillQueueModel_runsOf_4 Q K x1 n v5 v6 s)))))
set_option maxHeartbeats 4000000 in
set_option maxRecDepth 100000 in
theorem w_M_SpillQueueModel_runsOf_4 (X : gX) (ad : Nat → Nat) (Q : Int32 → gS → Prop) (K : Int32 → Int32 → gS → Prop) (x1 : Int32) (E : gE) (C : gC X E b_MO_runsOf 4 R_MO) (hRm : gRm E = rm_M_SpillQueueModel_runsOf) (r : gR X E b_MO_runsOf (some .int) (gBi (wM ad X) Q)) (hK : ∀ (x2 : Int32) (x3 : Int32) (s : gS), K x2 x3 s → gW X E 0 0 (wM ad X s) [(0, .ref (ad 0)), (1, .int x1), (2, .int x2), (3, .int x3)] 36 []) : ∀ (n : Nat) (x2 : Int32) (x3 : Int32) (s : gS), wl_M_SpillQueueModel_runsOf_4 Q K x1 n x2 x3 s → gW X E 0 0 (wM ad X s) [(0, .ref (ad 0)), (1, .int x1), (2, .int x2), (3, .int x3)] 4 [] := by
  intro n
  induction n with
  | zero => intro x2 x3 s h; exact False.elim h
  | succ n ih =>
    intro x2 x3 s h
    have h : (((s.1 12) ≤ x3 → K x2 x3 s) ∧ (¬ (s.1 12) ≤ x3 → vp_in x3 16 ∧ (((¬ (s.2 5 x3.toNatClampNeg) = x1 → ∀ v4 : Int32, v4 = x3 + 1 → wl_M_SpillQueueModel_runsOf_4 Q K x1 n x2 v4 s) ∧ ((s.2 5 x3.toNatClampNeg) = x1 → ∀ v5 : Int32, v5 = x2 + 1 → ∀ v6 : Int32, v6 = x3 + 1 → wl_M_SpillQueueModel_runsOf_4 Q K x1 n v5 v6 s))))) := h
    refine g_iload_n C d_MO_runsOf_4 rfl 3 rfl ?_
    refine g_aload_n C d_MO_runsOf_5 rfl 0 rfl ?_
    refine g_get C (v := .int (s.1 12)) 0 14 iw_MO rfl rfl (by decide) (gt 745 (by decide +kernel) rfl) rfl rfl d_MO_runsOf_6 ?_
    refine g_icmp_ge C 36 d_MO_runsOf_9 (by decide) (fun c1 => ?_) (fun c1 => ?_)
    · have h := h.1 c1
      exact hK x2 x3 s h
    · have h := h.2 c1
      refine g_aload_n C d_MO_runsOf_12 rfl 0 rfl ?_
      refine g_get C (v := .ref (ad 6)) 0 18 iw_MO rfl rfl (by decide) (gt 749 (by decide +kernel) rfl) rfl rfl d_MO_runsOf_13 ?_
      refine g_iload_n C d_MO_runsOf_16 rfl 3 rfl ?_
      obtain ⟨i2, h⟩ := h
      refine g_iald C 6 0 rfl rfl i2 d_MO_runsOf_17 ?_
      refine g_iload_n C d_MO_runsOf_18 rfl 1 rfl ?_
      refine g_icmp_ne C 28 d_MO_runsOf_19 (by decide) (fun c3 => ?_) (fun c3 => ?_)
      · have h := h.1 c3
        refine g_iload_n C d_MO_runsOf_28 rfl 2 rfl ?_
        refine g_istore_n C (lv2 := [(0, .ref (ad 0)), (1, .int x1), (2, .int x2), (3, .int x3)]) d_MO_runsOf_29 rfl (by decide) rfl ?_
        obtain ⟨v4, e_v4⟩ : ∃ y : Int32, y = x3 + 1 := ⟨_, rfl⟩
        have h := h v4 e_v4
        refine g_iinc C (v := v4) (lv2 := [(0, .ref (ad 0)), (1, .int x1), (2, .int x2), (3, .int v4)]) d_MO_runsOf_30 3 rfl (by rw [e_v4]; rfl) (by decide) rfl ?_
        refine g_goto C 4 d_MO_runsOf_33 (by decide) ?_
        exact ih x2 v4 s h
      · have h := h.2 c3
        refine g_iload_n C d_MO_runsOf_22 rfl 2 rfl ?_
        refine g_iconst C 1 d_MO_runsOf_23 (by decide) ?_
        refine g_iadd C d_MO_runsOf_24 ?_
        refine g_goto C 29 d_MO_runsOf_25 (by decide) ?_
        refine g_topi (fun v5 e_v5 => ?_)
        have h := h v5 e_v5
        refine g_istore_n C (lv2 := [(0, .ref (ad 0)), (1, .int x1), (2, .int v5), (3, .int x3)]) d_MO_runsOf_29 rfl (by decide) rfl ?_
        obtain ⟨v6, e_v6⟩ : ∃ y : Int32, y = x3 + 1 := ⟨_, rfl⟩
        have h := h v6 e_v6
        refine g_iinc C (v := v6) (lv2 := [(0, .ref (ad 0)), (1, .int x1), (2, .int v5), (3, .int v6)]) d_MO_runsOf_30 3 rfl (by rw [e_v6]; rfl) (by decide) rfl ?_
        refine g_goto C 4 d_MO_runsOf_33 (by decide) ?_
        exact ih v5 v6 s h
def wp_M_SpillQueueModel_runsOf (a1 : Int32) (s : gS) (Q : Int32 → gS → Prop) : Prop := ∃ n7 : Nat, wl_M_SpillQueueModel_runsOf_4 Q (fun v9 v10 s8 => Q v9 s8) a1 n7 0 0 s
set_option maxHeartbeats 4000000 in
set_option maxRecDepth 100000 in
theorem w_M_SpillQueueModel_runsOf (X : gX) (ad : Nat → Nat) (a1 : Int32) (s : gS) (Q : Int32 → gS → Prop) (h : wp_M_SpillQueueModel_runsOf a1 s Q) (E : gE) (C : gC X E b_MO_runsOf 4 R_MO) (hRm : gRm E = rm_M_SpillQueueModel_runsOf) (r : gR X E b_MO_runsOf (some .int) (gBi (wM ad X) Q)) : gW X E 0 0 (wM ad X s) [(0, .ref (ad 0)), (1, .int a1)] 0 [] := by
  have h : ∃ n7 : Nat, wl_M_SpillQueueModel_runsOf_4 Q (fun v9 v10 s8 => Q v9 s8) a1 n7 0 0 s := h
  refine g_iconst C 0 d_MO_runsOf_0 (by decide) ?_
  refine g_istore_n C (lv2 := [(0, .ref (ad 0)), (1, .int a1), (2, .int 0)]) d_MO_runsOf_1 rfl (by decide) rfl ?_
  refine g_iconst C 0 d_MO_runsOf_2 (by decide) ?_
  refine g_istore_n C (lv2 := [(0, .ref (ad 0)), (1, .int a1), (2, .int 0), (3, .int 0)]) d_MO_runsOf_3 rfl (by decide) rfl ?_
  obtain ⟨n7, h⟩ := h
  refine w_M_SpillQueueModel_runsOf_4 X ad Q (_) a1 E C hRm r ?_ n7 0 0 s h
  intro v9 v10 s8 h
  refine g_iload_n C d_MO_runsOf_36 rfl 2 rfl ?_
  exact g_iret r rfl d_MO_runsOf_37 (gBi_mk h)
theorem m_M_SpillQueueModel_runsOf (X : gX) (ad : Nat → Nat) (a1 : Int32) (s : gS) (Q : Int32 → gS → Prop) (h : wp_M_SpillQueueModel_runsOf a1 s Q) (l : Launch) : gM l X y_MO_runsOf b_MO_runsOf 4 (some .int) rm_M_SpillQueueModel_runsOf [.ref (ad 0), .int a1] (wM ad X s) (gBi (wM ad X) Q) :=
  gM_of (by decide +kernel) rfl (Nat.le_of_ble_eq_true rfl) rfl (fun E C hRm r => w_M_SpillQueueModel_runsOf X ad a1 s Q h E C hRm r)
def rm_M_SpillQueueModel_crowded : Room := { frames := 1, cells := 0, slots := 0, locals := 23 }
def wl_M_SpillQueueModel_crowded_4 (Q : Int32 → gS → Prop) (K : Int32 → Int32 → gS → Prop) : Nat → Int32 → Int32 → gS → Prop
  | 0, _, _, _ => False
  | n + 1, x1, x2, s => (((s.1 12) ≤ x2 → K x1 x2 s) ∧ (¬ (s.1 12) ≤ x2 → vp_in x2 16 ∧ (wp_M_SpillQueueModel_runsOf (s.2 5 x2.toNatClampNeg) s (fun r4 s3 => ((r4 < (s3.1 5) → ∀ v6 : Int32, v6 = x2 + 1 → wl_M_SpillQueueModel_crowded_4 Q K n x1 v6 s3) ∧ (¬ r4 < (s3.1 5) → ((x1 < 0 → ∀ v8 : Int32, v8 = x2 + 1 → wl_M_SpillQueueModel_crowded_4 Q K n x2 v8 s3) ∧ (¬ x1 < 0 → vp_in x2 16 ∧ (vp_in x1 16 ∧ ((((s3.2 5 x1.toNatClampNeg) ≤ (s3.2 5 x2.toNatClampNeg) → ∀ v12 : Int32, v12 = x2 + 1 → wl_M_SpillQueueModel_crowded_4 Q K n x1 v12 s3) ∧ (¬ (s3.2 5 x1.toNatClampNeg) ≤ (s3.2 5 x2.toNatClampNeg) → ∀ v13 : Int32, v13 = x2 + 1 → wl_M_SpillQueueModel_crowded_4 Q K n x2 v13 s3))))))))))))
set_option maxHeartbeats 4000000 in
set_option maxRecDepth 100000 in
theorem w_M_SpillQueueModel_crowded_4 (X : gX) (ad : Nat → Nat) (Q : Int32 → gS → Prop) (K : Int32 → Int32 → gS → Prop) (E : gE) (C : gC X E b_MO_crowded 3 R_MO) (hRm : gRm E = rm_M_SpillQueueModel_crowded) (r : gR X E b_MO_crowded (some .int) (gBi (wM ad X) Q)) (hK : ∀ (x1 : Int32) (x2 : Int32) (s : gS), K x1 x2 s → gW X E 0 0 (wM ad X s) [(0, .ref (ad 0)), (1, .int x1), (2, .int x2)] 60 []) : ∀ (n : Nat) (x1 : Int32) (x2 : Int32) (s : gS), wl_M_SpillQueueModel_crowded_4 Q K n x1 x2 s → gW X E 0 0 (wM ad X s) [(0, .ref (ad 0)), (1, .int x1), (2, .int x2)] 4 [] := by
  intro n
  induction n with
  | zero => intro x1 x2 s h; exact False.elim h
  | succ n ih =>
    intro x1 x2 s h
    have h : (((s.1 12) ≤ x2 → K x1 x2 s) ∧ (¬ (s.1 12) ≤ x2 → vp_in x2 16 ∧ (wp_M_SpillQueueModel_runsOf (s.2 5 x2.toNatClampNeg) s (fun r4 s3 => ((r4 < (s3.1 5) → ∀ v6 : Int32, v6 = x2 + 1 → wl_M_SpillQueueModel_crowded_4 Q K n x1 v6 s3) ∧ (¬ r4 < (s3.1 5) → ((x1 < 0 → ∀ v8 : Int32, v8 = x2 + 1 → wl_M_SpillQueueModel_crowded_4 Q K n x2 v8 s3) ∧ (¬ x1 < 0 → vp_in x2 16 ∧ (vp_in x1 16 ∧ ((((s3.2 5 x1.toNatClampNeg) ≤ (s3.2 5 x2.toNatClampNeg) → ∀ v12 : Int32, v12 = x2 + 1 → wl_M_SpillQueueModel_crowded_4 Q K n x1 v12 s3) ∧ (¬ (s3.2 5 x1.toNatClampNeg) ≤ (s3.2 5 x2.toNatClampNeg) → ∀ v13 : Int32, v13 = x2 + 1 → wl_M_SpillQueueModel_crowded_4 Q K n x2 v13 s3)))))))))))) := h
    refine g_iload_n C d_MO_crowded_4 rfl 2 rfl ?_
    refine g_aload_n C d_MO_crowded_5 rfl 0 rfl ?_
    refine g_get C (v := .int (s.1 12)) 0 14 iw_MO rfl rfl (by decide) (gt 745 (by decide +kernel) rfl) rfl rfl d_MO_crowded_6 ?_
    refine g_icmp_ge C 60 d_MO_crowded_9 (by decide) (fun c1 => ?_) (fun c1 => ?_)
    · have h := h.1 c1
      exact hK x1 x2 s h
    · have h := h.2 c1
      refine g_aload_n C d_MO_crowded_12 rfl 0 rfl ?_
      refine g_aload_n C d_MO_crowded_13 rfl 0 rfl ?_
      refine g_get C (v := .ref (ad 6)) 0 18 iw_MO rfl rfl (by decide) (gt 749 (by decide +kernel) rfl) rfl rfl d_MO_crowded_14 ?_
      refine g_iload_n C d_MO_crowded_17 rfl 2 rfl ?_
      obtain ⟨i2, h⟩ := h
      refine g_iald C 6 0 rfl rfl i2 d_MO_crowded_18 ?_
      refine g_callV C (rest := []) 0 (fun l => m_M_SpillQueueModel_runsOf X ad (s.2 5 x2.toNatClampNeg) s _ h l) rfl rfl (gt 916 (by decide +kernel) rfl) cb_MO_runsOf ⟨rfl, rfl⟩ (by rw [hRm]; decide) ⟨Nat.zero_le _, Nat.zero_le _⟩ rfl rfl (Nat.le_of_ble_eq_true rfl) d_MO_crowded_19 (gki (fun r4 s3 h => ?_))
      refine g_aload_n C d_MO_crowded_22 rfl 0 rfl ?_
      refine g_get C (v := .int (s3.1 5)) 0 5 iw_MO rfl rfl (by decide) (gt 736 (by decide +kernel) rfl) rfl rfl d_MO_crowded_23 ?_
      refine g_icmp_lt C 52 d_MO_crowded_26 (by decide) (fun c5 => ?_) (fun c5 => ?_)
      · have h := h.1 c5
        refine g_iload_n C d_MO_crowded_52 rfl 1 rfl ?_
        refine g_istore_n C (lv2 := [(0, .ref (ad 0)), (1, .int x1), (2, .int x2)]) d_MO_crowded_53 rfl (by decide) rfl ?_
        obtain ⟨v6, e_v6⟩ : ∃ y : Int32, y = x2 + 1 := ⟨_, rfl⟩
        have h := h v6 e_v6
        refine g_iinc C (v := v6) (lv2 := [(0, .ref (ad 0)), (1, .int x1), (2, .int v6)]) d_MO_crowded_54 2 rfl (by rw [e_v6]; rfl) (by decide) rfl ?_
        refine g_goto C 4 d_MO_crowded_57 (by decide) ?_
        exact ih x1 v6 s3 h
      · have h := h.2 c5
        refine g_iload_n C d_MO_crowded_29 rfl 1 rfl ?_
        refine g_if_lt C 48 d_MO_crowded_30 (by decide) (fun c7 => ?_) (fun c7 => ?_)
        · have h := h.1 c7
          refine g_iload_n C d_MO_crowded_48 rfl 2 rfl ?_
          refine g_goto C 53 d_MO_crowded_49 (by decide) ?_
          refine g_istore_n C (lv2 := [(0, .ref (ad 0)), (1, .int x2), (2, .int x2)]) d_MO_crowded_53 rfl (by decide) rfl ?_
          obtain ⟨v8, e_v8⟩ : ∃ y : Int32, y = x2 + 1 := ⟨_, rfl⟩
          have h := h v8 e_v8
          refine g_iinc C (v := v8) (lv2 := [(0, .ref (ad 0)), (1, .int x2), (2, .int v8)]) d_MO_crowded_54 2 rfl (by rw [e_v8]; rfl) (by decide) rfl ?_
          refine g_goto C 4 d_MO_crowded_57 (by decide) ?_
          exact ih x2 v8 s3 h
        · have h := h.2 c7
          refine g_aload_n C d_MO_crowded_33 rfl 0 rfl ?_
          refine g_get C (v := .ref (ad 6)) 0 18 iw_MO rfl rfl (by decide) (gt 749 (by decide +kernel) rfl) rfl rfl d_MO_crowded_34 ?_
          refine g_iload_n C d_MO_crowded_37 rfl 2 rfl ?_
          obtain ⟨i9, h⟩ := h
          refine g_iald C 6 0 rfl rfl i9 d_MO_crowded_38 ?_
          refine g_aload_n C d_MO_crowded_39 rfl 0 rfl ?_
          refine g_get C (v := .ref (ad 6)) 0 18 iw_MO rfl rfl (by decide) (gt 749 (by decide +kernel) rfl) rfl rfl d_MO_crowded_40 ?_
          refine g_iload_n C d_MO_crowded_43 rfl 1 rfl ?_
          obtain ⟨i10, h⟩ := h
          refine g_iald C 6 0 rfl rfl i10 d_MO_crowded_44 ?_
          refine g_icmp_ge C 52 d_MO_crowded_45 (by decide) (fun c11 => ?_) (fun c11 => ?_)
          · have h := h.1 c11
            refine g_iload_n C d_MO_crowded_52 rfl 1 rfl ?_
            refine g_istore_n C (lv2 := [(0, .ref (ad 0)), (1, .int x1), (2, .int x2)]) d_MO_crowded_53 rfl (by decide) rfl ?_
            obtain ⟨v12, e_v12⟩ : ∃ y : Int32, y = x2 + 1 := ⟨_, rfl⟩
            have h := h v12 e_v12
            refine g_iinc C (v := v12) (lv2 := [(0, .ref (ad 0)), (1, .int x1), (2, .int v12)]) d_MO_crowded_54 2 rfl (by rw [e_v12]; rfl) (by decide) rfl ?_
            refine g_goto C 4 d_MO_crowded_57 (by decide) ?_
            exact ih x1 v12 s3 h
          · have h := h.2 c11
            refine g_iload_n C d_MO_crowded_48 rfl 2 rfl ?_
            refine g_goto C 53 d_MO_crowded_49 (by decide) ?_
            refine g_istore_n C (lv2 := [(0, .ref (ad 0)), (1, .int x2), (2, .int x2)]) d_MO_crowded_53 rfl (by decide) rfl ?_
            obtain ⟨v13, e_v13⟩ : ∃ y : Int32, y = x2 + 1 := ⟨_, rfl⟩
            have h := h v13 e_v13
            refine g_iinc C (v := v13) (lv2 := [(0, .ref (ad 0)), (1, .int x2), (2, .int v13)]) d_MO_crowded_54 2 rfl (by rw [e_v13]; rfl) (by decide) rfl ?_
            refine g_goto C 4 d_MO_crowded_57 (by decide) ?_
            exact ih x2 v13 s3 h
def wp_M_SpillQueueModel_crowded (s : gS) (Q : Int32 → gS → Prop) : Prop := ∃ n14 : Nat, wl_M_SpillQueueModel_crowded_4 Q (fun v16 v17 s15 => Q v16 s15)  n14 (-1) 0 s
set_option maxHeartbeats 4000000 in
set_option maxRecDepth 100000 in
theorem w_M_SpillQueueModel_crowded (X : gX) (ad : Nat → Nat) (s : gS) (Q : Int32 → gS → Prop) (h : wp_M_SpillQueueModel_crowded  s Q) (E : gE) (C : gC X E b_MO_crowded 3 R_MO) (hRm : gRm E = rm_M_SpillQueueModel_crowded) (r : gR X E b_MO_crowded (some .int) (gBi (wM ad X) Q)) : gW X E 0 0 (wM ad X s) [(0, .ref (ad 0))] 0 [] := by
  have h : ∃ n14 : Nat, wl_M_SpillQueueModel_crowded_4 Q (fun v16 v17 s15 => Q v16 s15)  n14 (-1) 0 s := h
  refine g_iconst C (-1) d_MO_crowded_0 (by decide) ?_
  refine g_istore_n C (lv2 := [(0, .ref (ad 0)), (1, .int (-1))]) d_MO_crowded_1 rfl (by decide) rfl ?_
  refine g_iconst C 0 d_MO_crowded_2 (by decide) ?_
  refine g_istore_n C (lv2 := [(0, .ref (ad 0)), (1, .int (-1)), (2, .int 0)]) d_MO_crowded_3 rfl (by decide) rfl ?_
  obtain ⟨n14, h⟩ := h
  refine w_M_SpillQueueModel_crowded_4 X ad Q (_)  E C hRm r ?_ n14 (-1) 0 s h
  intro v16 v17 s15 h
  refine g_iload_n C d_MO_crowded_60 rfl 1 rfl ?_
  exact g_iret r rfl d_MO_crowded_61 (gBi_mk h)
theorem m_M_SpillQueueModel_crowded (X : gX) (ad : Nat → Nat) (s : gS) (Q : Int32 → gS → Prop) (h : wp_M_SpillQueueModel_crowded  s Q) (l : Launch) : gM l X y_MO_crowded b_MO_crowded 3 (some .int) rm_M_SpillQueueModel_crowded [.ref (ad 0)] (wM ad X s) (gBi (wM ad X) Q) :=
  gM_of (by decide +kernel) rfl (Nat.le_of_ble_eq_true rfl) rfl (fun E C hRm r => w_M_SpillQueueModel_crowded X ad  s Q h E C hRm r)
