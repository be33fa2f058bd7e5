def rm_M_SpillQueueModel_dropRun : Room := { frames := 0, cells := 0, slots := 0, locals := 0 }
def wl_M_SpillQueueModel_dropRun_12 (Q : gS → Prop) (K : Int32 → gS → Prop) (x1 : Int32) : Nat → Int32 → gS → Prop
  | 0, _, _ => False
  | n + 1, x2, s => (((s.1 12) ≤ x2 → K x2 s) ∧ (¬ (s.1 12) ≤ x2 → vp_in (x2 + 1) 16 ∧ (∀ v4 : Int32, v4 = s.2 2 (x2 + 1).toNatClampNeg → vp_in x2 16 ∧ (vp_in (x2 + 1) 16 ∧ (∀ v7 : Int32, v7 = s.2 3 (x2 + 1).toNatClampNeg → vp_in x2 16 ∧ (vp_in (x2 + 1) 16 ∧ (∀ v10 : Int32, v10 = s.2 4 (x2 + 1).toNatClampNeg → vp_in x2 16 ∧ (vp_in (x2 + 1) 16 ∧ (∀ v13 : Int32, v13 = s.2 5 (x2 + 1).toNatClampNeg → vp_in x2 16 ∧ (∀ v15 : Int32, v15 = x2 + 1 → wl_M_SpillQueueModel_dropRun_12 Q K x1 n v15 (s.1, ua (ua (ua (ua s.2 2 (upd (s.2 2) x2.toNatClampNeg v4)) 3 (upd (s.2 3) x2.toNatClampNeg v7)) 4 (upd (s.2 4) x2.toNatClampNeg v10)) 5 (upd (s.2 5) x2.toNatClampNeg v13))))))))))))
set_option maxHeartbeats 4000000 in
set_option maxRecDepth 100000 in
theorem w_M_SpillQueueModel_dropRun_12 (X : gX) (ad : Nat → Nat) (Q : gS → Prop) (K : Int32 → gS → Prop) (x1 : Int32) (E : gE) (C : gC X E b_MO_dropRun 3 R_MO) (hRm : gRm E = rm_M_SpillQueueModel_dropRun) (r : gR X E b_MO_dropRun none (gBv (wM ad X) Q)) (hK : ∀ (x2 : Int32) (s : gS), K x2 s → gW X E 0 0 (wM ad X s) [(0, .ref (ad 0)), (1, .int x1), (2, .int x2)] 82 []) : ∀ (n : Nat) (x2 : Int32) (s : gS), wl_M_SpillQueueModel_dropRun_12 Q K x1 n x2 s → gW X E 0 0 (wM ad X s) [(0, .ref (ad 0)), (1, .int x1), (2, .int x2)] 12 [] := by
  intro n
  induction n with
  | zero => intro x2 s h; exact False.elim h
  | succ n ih =>
    intro x2 s h
    have h : (((s.1 12) ≤ x2 → K x2 s) ∧ (¬ (s.1 12) ≤ x2 → vp_in (x2 + 1) 16 ∧ (∀ v4 : Int32, v4 = s.2 2 (x2 + 1).toNatClampNeg → vp_in x2 16 ∧ (vp_in (x2 + 1) 16 ∧ (∀ v7 : Int32, v7 = s.2 3 (x2 + 1).toNatClampNeg → vp_in x2 16 ∧ (vp_in (x2 + 1) 16 ∧ (∀ v10 : Int32, v10 = s.2 4 (x2 + 1).toNatClampNeg → vp_in x2 16 ∧ (vp_in (x2 + 1) 16 ∧ (∀ v13 : Int32, v13 = s.2 5 (x2 + 1).toNatClampNeg → vp_in x2 16 ∧ (∀ v15 : Int32, v15 = x2 + 1 → wl_M_SpillQueueModel_dropRun_12 Q K x1 n v15 (s.1, ua (ua (ua (ua s.2 2 (upd (s.2 2) x2.toNatClampNeg v4)) 3 (upd (s.2 3) x2.toNatClampNeg v7)) 4 (upd (s.2 4) x2.toNatClampNeg v10)) 5 (upd (s.2 5) x2.toNatClampNeg v13)))))))))))) := h
    refine g_iload_n C d_MO_dropRun_12 rfl 2 rfl ?_
    refine g_aload_n C d_MO_dropRun_13 rfl 0 rfl ?_
    refine g_get C (v := .int (s.1 12)) 0 14 iw_MO rfl rfl (by decide) (gt 745 (by decide +kernel) rfl) rfl rfl d_MO_dropRun_14 ?_
    refine g_icmp_ge C 82 d_MO_dropRun_17 (by decide) (fun c2 => ?_) (fun c2 => ?_)
    · have h := h.1 c2
      exact hK x2 s h
    · have h := h.2 c2
      refine g_aload_n C d_MO_dropRun_20 rfl 0 rfl ?_
      refine g_get C (v := .ref (ad 3)) 0 15 iw_MO rfl rfl (by decide) (gt 746 (by decide +kernel) rfl) rfl rfl d_MO_dropRun_21 ?_
      refine g_iload_n C d_MO_dropRun_24 rfl 2 rfl ?_
      refine g_aload_n C d_MO_dropRun_25 rfl 0 rfl ?_
      refine g_get C (v := .ref (ad 3)) 0 15 iw_MO rfl rfl (by decide) (gt 746 (by decide +kernel) rfl) rfl rfl d_MO_dropRun_26 ?_
      refine g_iload_n C d_MO_dropRun_29 rfl 2 rfl ?_
      refine g_iconst C 1 d_MO_dropRun_30 (by decide) ?_
      refine g_iadd C d_MO_dropRun_31 ?_
      obtain ⟨i3, h⟩ := h
      refine g_iald C 3 0 rfl rfl i3 d_MO_dropRun_32 ?_
      refine g_topi (fun v4 e_v4 => ?_)
      have h := h v4 e_v4
      obtain ⟨i5, h⟩ := h
      refine g_iast C 3 0 (ws2 := wM ad X (s.1, ua s.2 2 (upd (s.2 2) x2.toNatClampNeg v4))) rfl rfl i5 rfl d_MO_dropRun_33 ?_
      refine g_aload_n C d_MO_dropRun_34 rfl 0 rfl ?_
      refine g_get C (v := .ref (ad 4)) 0 16 iw_MO rfl rfl (by decide) (gt 747 (by decide +kernel) rfl) rfl rfl d_MO_dropRun_35 ?_
      refine g_iload_n C d_MO_dropRun_38 rfl 2 rfl ?_
      refine g_aload_n C d_MO_dropRun_39 rfl 0 rfl ?_
      refine g_get C (v := .ref (ad 4)) 0 16 iw_MO rfl rfl (by decide) (gt 747 (by decide +kernel) rfl) rfl rfl d_MO_dropRun_40 ?_
      refine g_iload_n C d_MO_dropRun_43 rfl 2 rfl ?_
      refine g_iconst C 1 d_MO_dropRun_44 (by decide) ?_
      refine g_iadd C d_MO_dropRun_45 ?_
      obtain ⟨i6, h⟩ := h
      refine g_iald C 4 0 rfl rfl i6 d_MO_dropRun_46 ?_
      refine g_topi (fun v7 e_v7 => ?_)
      have h := h v7 e_v7
      obtain ⟨i8, h⟩ := h
      refine g_iast C 4 0 (ws2 := wM ad X (s.1, ua (ua s.2 2 (upd (s.2 2) x2.toNatClampNeg v4)) 3 (upd (s.2 3) x2.toNatClampNeg v7))) rfl rfl i8 rfl d_MO_dropRun_47 ?_
      refine g_aload_n C d_MO_dropRun_48 rfl 0 rfl ?_
      refine g_get C (v := .ref (ad 5)) 0 17 iw_MO rfl rfl (by decide) (gt 748 (by decide +kernel) rfl) rfl rfl d_MO_dropRun_49 ?_
      refine g_iload_n C d_MO_dropRun_52 rfl 2 rfl ?_
      refine g_aload_n C d_MO_dropRun_53 rfl 0 rfl ?_
      refine g_get C (v := .ref (ad 5)) 0 17 iw_MO rfl rfl (by decide) (gt 748 (by decide +kernel) rfl) rfl rfl d_MO_dropRun_54 ?_
      refine g_iload_n C d_MO_dropRun_57 rfl 2 rfl ?_
      refine g_iconst C 1 d_MO_dropRun_58 (by decide) ?_
      refine g_iadd C d_MO_dropRun_59 ?_
      obtain ⟨i9, h⟩ := h
      refine g_iald C 5 0 rfl rfl i9 d_MO_dropRun_60 ?_
      refine g_topi (fun v10 e_v10 => ?_)
      have h := h v10 e_v10
      obtain ⟨i11, h⟩ := h
      refine g_iast C 5 0 (ws2 := wM ad X (s.1, ua (ua (ua s.2 2 (upd (s.2 2) x2.toNatClampNeg v4)) 3 (upd (s.2 3) x2.toNatClampNeg v7)) 4 (upd (s.2 4) x2.toNatClampNeg v10))) rfl rfl i11 rfl d_MO_dropRun_61 ?_
      refine g_aload_n C d_MO_dropRun_62 rfl 0 rfl ?_
      refine g_get C (v := .ref (ad 6)) 0 18 iw_MO rfl rfl (by decide) (gt 749 (by decide +kernel) rfl) rfl rfl d_MO_dropRun_63 ?_
      refine g_iload_n C d_MO_dropRun_66 rfl 2 rfl ?_
      refine g_aload_n C d_MO_dropRun_67 rfl 0 rfl ?_
      refine g_get C (v := .ref (ad 6)) 0 18 iw_MO rfl rfl (by decide) (gt 749 (by decide +kernel) rfl) rfl rfl d_MO_dropRun_68 ?_
      refine g_iload_n C d_MO_dropRun_71 rfl 2 rfl ?_
      refine g_iconst C 1 d_MO_dropRun_72 (by decide) ?_
      refine g_iadd C d_MO_dropRun_73 ?_
      obtain ⟨i12, h⟩ := h
      refine g_iald C 6 0 rfl rfl i12 d_MO_dropRun_74 ?_
      refine g_topi (fun v13 e_v13 => ?_)
      have h := h v13 e_v13
      obtain ⟨i14, h⟩ := h
      refine g_iast C 6 0 (ws2 := wM ad X (s.1, ua (ua (ua (ua s.2 2 (upd (s.2 2) x2.toNatClampNeg v4)) 3 (upd (s.2 3) x2.toNatClampNeg v7)) 4 (upd (s.2 4) x2.toNatClampNeg v10)) 5 (upd (s.2 5) x2.toNatClampNeg v13))) rfl rfl i14 rfl d_MO_dropRun_75 ?_
      obtain ⟨v15, e_v15⟩ : ∃ y : Int32, y = x2 + 1 := ⟨_, rfl⟩
      have h := h v15 e_v15
      refine g_iinc C (v := v15) (lv2 := [(0, .ref (ad 0)), (1, .int x1), (2, .int v15)]) d_MO_dropRun_76 2 rfl (by rw [e_v15]; rfl) (by decide) rfl ?_
      refine g_goto C 12 d_MO_dropRun_79 (by decide) ?_
      exact ih v15 (s.1, ua (ua (ua (ua s.2 2 (upd (s.2 2) x2.toNatClampNeg v4)) 3 (upd (s.2 3) x2.toNatClampNeg v7)) 4 (upd (s.2 4) x2.toNatClampNeg v10)) 5 (upd (s.2 5) x2.toNatClampNeg v13)) h
def wp_M_SpillQueueModel_dropRun (a1 : Int32) (s : gS) (Q : gS → Prop) : Prop := ∀ v1 : Int32, v1 = (s.1 12) - 1 → ∃ n16 : Nat, wl_M_SpillQueueModel_dropRun_12 Q (fun v18 s17 => Q s17) a1 n16 a1 (up s.1 12 (v1), s.2)
set_option maxHeartbeats 4000000 in
set_option maxRecDepth 100000 in
theorem w_M_SpillQueueModel_dropRun (X : gX) (ad : Nat → Nat) (a1 : Int32) (s : gS) (Q : gS → Prop) (h : wp_M_SpillQueueModel_dropRun a1 s Q) (E : gE) (C : gC X E b_MO_dropRun 3 R_MO) (hRm : gRm E = rm_M_SpillQueueModel_dropRun) (r : gR X E b_MO_dropRun none (gBv (wM ad X) Q)) : gW X E 0 0 (wM ad X s) [(0, .ref (ad 0)), (1, .int a1)] 0 [] := by
  have h : ∀ v1 : Int32, v1 = (s.1 12) - 1 → ∃ n16 : Nat, wl_M_SpillQueueModel_dropRun_12 Q (fun v18 s17 => Q s17) a1 n16 a1 (up s.1 12 (v1), s.2) := h
  refine g_aload_n C d_MO_dropRun_0 rfl 0 rfl ?_
  refine g_dup C rfl d_MO_dropRun_1 ?_
  refine g_get C (v := .int (s.1 12)) 0 14 iw_MO rfl rfl (by decide) (gt 745 (by decide +kernel) rfl) rfl rfl d_MO_dropRun_2 ?_
  refine g_iconst C 1 d_MO_dropRun_5 (by decide) ?_
  refine g_isub C d_MO_dropRun_6 ?_
  refine g_topi (fun v1 e_v1 => ?_)
  have h := h v1 e_v1
  refine g_put C (ws2 := wM ad X (up s.1 12 (v1), s.2)) 0 14 iw_MO ty_MO tyok_MO nm_MO rfl rfl (by decide) (gt 745 (by decide +kernel) rfl) rfl rfl rfl rfl (Nat.le_of_ble_eq_true rfl) rfl d_MO_dropRun_7 ?_
  refine g_iload_n C d_MO_dropRun_10 rfl 1 rfl ?_
  refine g_istore_n C (lv2 := [(0, .ref (ad 0)), (1, .int a1), (2, .int a1)]) d_MO_dropRun_11 rfl (by decide) rfl ?_
  obtain ⟨n16, h⟩ := h
  refine w_M_SpillQueueModel_dropRun_12 X ad Q (_) a1 E C hRm r ?_ n16 a1 (up s.1 12 (v1), s.2) h
  intro v18 s17 h
  exact g_vret r d_MO_dropRun_82 (gBv_mk h)
theorem m_M_SpillQueueModel_dropRun (X : gX) (ad : Nat → Nat) (a1 : Int32) (s : gS) (Q : gS → Prop) (h : wp_M_SpillQueueModel_dropRun a1 s Q) (l : Launch) : gM l X y_MO_dropRun b_MO_dropRun 3 none rm_M_SpillQueueModel_dropRun [.ref (ad 0), .int a1] (wM ad X s) (gBv (wM ad X) Q) :=
  gM_of (by decide +kernel) rfl (Nat.le_of_ble_eq_true rfl) rfl (fun E C hRm r => w_M_SpillQueueModel_dropRun X ad a1 s Q h E C hRm r)
def rm_M_SpillQueueModel_merge : Room := { frames := 5, cells := 0, slots := 0, locals := 112 }
def wl_M_SpillQueueModel_merge_6 (Q : Int32 → gS → Prop) (K : Int32 → Int32 → gS → Prop) (x1 : Int32) (x2 : Int32) (x3 : Int32) : Nat → Int32 → Int32 → gS → Prop
  | 0, _, _, _ => False
  | n + 1, x4, x5, s => (((s.1 12) ≤ x5 → K x4 x5 s) ∧ (¬ (s.1 12) ≤ x5 → ((¬ x1 = 0 → vp_in x5 16 ∧ (vp_in x5 16 ∧ (∀ v5 : Int32, v5 = s.2 2 x5.toNatClampNeg → vp_in x5 16 ∧ (vp_in x5 16 ∧ (∀ v8 : Int32, v8 = s.2 3 x5.toNatClampNeg → vp_in x5 16 ∧ (vp_in x5 16 ∧ (∀ v11 : Int32, v11 = s.2 4 x5.toNatClampNeg → vp_in x5 16 ∧ (vp_in x5 16 ∧ (((((upd (s.2 13) x5.toNatClampNeg (vp_nar .boolean 1)) x5.toNatClampNeg) = 0 → ∀ v15 : Int32, v15 = x5 + 1 → wl_M_SpillQueueModel_merge_6 Q K x1 x2 x3 n x4 v15 (s.1, ua (ua (ua (ua s.2 13 (upd (s.2 13) x5.toNatClampNeg (vp_nar .boolean 1))) 10 (upd (s.2 10) x5.toNatClampNeg v5)) 11 (upd (s.2 11) x5.toNatClampNeg v8)) 12 (upd (s.2 12) x5.toNatClampNeg v11))) ∧ (¬ ((upd (s.2 13) x5.toNatClampNeg (vp_nar .boolean 1)) x5.toNatClampNeg) = 0 → vp_in x5 16 ∧ (∀ v17 : Int32, v17 = x4 + (s.2 4 x5.toNatClampNeg) → ∀ v18 : Int32, v18 = x5 + 1 → wl_M_SpillQueueModel_merge_6 Q K x1 x2 x3 n v17 v18 (s.1, ua (ua (ua (ua s.2 13 (upd (s.2 13) x5.toNatClampNeg (vp_nar .boolean 1))) 10 (upd (s.2 10) x5.toNatClampNeg v5)) 11 (upd (s.2 11) x5.toNatClampNeg v8)) 12 (upd (s.2 12) x5.toNatClampNeg v11)))))))))))))) ∧ (x1 = 0 → vp_in x5 16 ∧ (((¬ (s.2 5 x5.toNatClampNeg) = x2 → vp_in x5 16 ∧ (vp_in x5 16 ∧ (∀ v23 : Int32, v23 = s.2 2 x5.toNatClampNeg → vp_in x5 16 ∧ (vp_in x5 16 ∧ (∀ v26 : Int32, v26 = s.2 3 x5.toNatClampNeg → vp_in x5 16 ∧ (vp_in x5 16 ∧ (∀ v29 : Int32, v29 = s.2 4 x5.toNatClampNeg → vp_in x5 16 ∧ (vp_in x5 16 ∧ (((((upd (s.2 13) x5.toNatClampNeg (vp_nar .boolean 0)) x5.toNatClampNeg) = 0 → ∀ v33 : Int32, v33 = x5 + 1 → wl_M_SpillQueueModel_merge_6 Q K x1 x2 x3 n x4 v33 (s.1, ua (ua (ua (ua s.2 13 (upd (s.2 13) x5.toNatClampNeg (vp_nar .boolean 0))) 10 (upd (s.2 10) x5.toNatClampNeg v23)) 11 (upd (s.2 11) x5.toNatClampNeg v26)) 12 (upd (s.2 12) x5.toNatClampNeg v29))) ∧ (¬ ((upd (s.2 13) x5.toNatClampNeg (vp_nar .boolean 0)) x5.toNatClampNeg) = 0 → vp_in x5 16 ∧ (∀ v35 : Int32, v35 = x4 + (s.2 4 x5.toNatClampNeg) → ∀ v36 : Int32, v36 = x5 + 1 → wl_M_SpillQueueModel_merge_6 Q K x1 x2 x3 n v35 v36 (s.1, ua (ua (ua (ua s.2 13 (upd (s.2 13) x5.toNatClampNeg (vp_nar .boolean 0))) 10 (upd (s.2 10) x5.toNatClampNeg v23)) 11 (upd (s.2 11) x5.toNatClampNeg v26)) 12 (upd (s.2 12) x5.toNatClampNeg v29)))))))))))))) ∧ ((s.2 5 x5.toNatClampNeg) = x2 → vp_in x5 16 ∧ (vp_in x5 16 ∧ (∀ v39 : Int32, v39 = s.2 2 x5.toNatClampNeg → vp_in x5 16 ∧ (vp_in x5 16 ∧ (∀ v42 : Int32, v42 = s.2 3 x5.toNatClampNeg → vp_in x5 16 ∧ (vp_in x5 16 ∧ (∀ v45 : Int32, v45 = s.2 4 x5.toNatClampNeg → vp_in x5 16 ∧ (vp_in x5 16 ∧ (((((upd (s.2 13) x5.toNatClampNeg (vp_nar .boolean 1)) x5.toNatClampNeg) = 0 → ∀ v49 : Int32, v49 = x5 + 1 → wl_M_SpillQueueModel_merge_6 Q K x1 x2 x3 n x4 v49 (s.1, ua (ua (ua (ua s.2 13 (upd (s.2 13) x5.toNatClampNeg (vp_nar .boolean 1))) 10 (upd (s.2 10) x5.toNatClampNeg v39)) 11 (upd (s.2 11) x5.toNatClampNeg v42)) 12 (upd (s.2 12) x5.toNatClampNeg v45))) ∧ (¬ ((upd (s.2 13) x5.toNatClampNeg (vp_nar .boolean 1)) x5.toNatClampNeg) = 0 → vp_in x5 16 ∧ (∀ v51 : Int32, v51 = x4 + (s.2 4 x5.toNatClampNeg) → ∀ v52 : Int32, v52 = x5 + 1 → wl_M_SpillQueueModel_merge_6 Q K x1 x2 x3 n v51 v52 (s.1, ua (ua (ua (ua s.2 13 (upd (s.2 13) x5.toNatClampNeg (vp_nar .boolean 1))) 10 (upd (s.2 10) x5.toNatClampNeg v39)) 11 (upd (s.2 11) x5.toNatClampNeg v42)) 12 (upd (s.2 12) x5.toNatClampNeg v45))))))))))))))))))))
set_option maxHeartbeats 4000000 in
set_option maxRecDepth 100000 in
theorem w_M_SpillQueueModel_merge_6 (X : gX) (ad : Nat → Nat) (Q : Int32 → gS → Prop) (K : Int32 → Int32 → gS → Prop) (x1 : Int32) (x2 : Int32) (x3 : Int32) (E : gE) (C : gC X E b_MO_merge 7 R_MO) (hRm : gRm E = rm_M_SpillQueueModel_merge) (r : gR X E b_MO_merge (some .boolean) (gBi (wM ad X) Q)) (hK : ∀ (x4 : Int32) (x5 : Int32) (s : gS), K x4 x5 s → gW X E 0 0 (wM ad X s) [(0, .ref (ad 0)), (1, .int x1), (2, .int x2), (3, .int x3), (4, .int x4), (5, .int x5)] 117 []) : ∀ (n : Nat) (x4 : Int32) (x5 : Int32) (s : gS), wl_M_SpillQueueModel_merge_6 Q K x1 x2 x3 n x4 x5 s → gW X E 0 0 (wM ad X s) [(0, .ref (ad 0)), (1, .int x1), (2, .int x2), (3, .int x3), (4, .int x4), (5, .int x5)] 6 [] := by
  intro n
  induction n with
  | zero => intro x4 x5 s h; exact False.elim h
  | succ n ih =>
    intro x4 x5 s h
    have h : (((s.1 12) ≤ x5 → K x4 x5 s) ∧ (¬ (s.1 12) ≤ x5 → ((¬ x1 = 0 → vp_in x5 16 ∧ (vp_in x5 16 ∧ (∀ v5 : Int32, v5 = s.2 2 x5.toNatClampNeg → vp_in x5 16 ∧ (vp_in x5 16 ∧ (∀ v8 : Int32, v8 = s.2 3 x5.toNatClampNeg → vp_in x5 16 ∧ (vp_in x5 16 ∧ (∀ v11 : Int32, v11 = s.2 4 x5.toNatClampNeg → vp_in x5 16 ∧ (vp_in x5 16 ∧ (((((upd (s.2 13) x5.toNatClampNeg (vp_nar .boolean 1)) x5.toNatClampNeg) = 0 → ∀ v15 : Int32, v15 = x5 + 1 → wl_M_SpillQueueModel_merge_6 Q K x1 x2 x3 n x4 v15 (s.1, ua (ua (ua (ua s.2 13 (upd (s.2 13) x5.toNatClampNeg (vp_nar .boolean 1))) 10 (upd (s.2 10) x5.toNatClampNeg v5)) 11 (upd (s.2 11) x5.toNatClampNeg v8)) 12 (upd (s.2 12) x5.toNatClampNeg v11))) ∧ (¬ ((upd (s.2 13) x5.toNatClampNeg (vp_nar .boolean 1)) x5.toNatClampNeg) = 0 → vp_in x5 16 ∧ (∀ v17 : Int32, v17 = x4 + (s.2 4 x5.toNatClampNeg) → ∀ v18 : Int32, v18 = x5 + 1 → wl_M_SpillQueueModel_merge_6 Q K x1 x2 x3 n v17 v18 (s.1, ua (ua (ua (ua s.2 13 (upd (s.2 13) x5.toNatClampNeg (vp_nar .boolean 1))) 10 (upd (s.2 10) x5.toNatClampNeg v5)) 11 (upd (s.2 11) x5.toNatClampNeg v8)) 12 (upd (s.2 12) x5.toNatClampNeg v11)))))))))))))) ∧ (x1 = 0 → vp_in x5 16 ∧ (((¬ (s.2 5 x5.toNatClampNeg) = x2 → vp_in x5 16 ∧ (vp_in x5 16 ∧ (∀ v23 : Int32, v23 = s.2 2 x5.toNatClampNeg → vp_in x5 16 ∧ (vp_in x5 16 ∧ (∀ v26 : Int32, v26 = s.2 3 x5.toNatClampNeg → vp_in x5 16 ∧ (vp_in x5 16 ∧ (∀ v29 : Int32, v29 = s.2 4 x5.toNatClampNeg → vp_in x5 16 ∧ (vp_in x5 16 ∧ (((((upd (s.2 13) x5.toNatClampNeg (vp_nar .boolean 0)) x5.toNatClampNeg) = 0 → ∀ v33 : Int32, v33 = x5 + 1 → wl_M_SpillQueueModel_merge_6 Q K x1 x2 x3 n x4 v33 (s.1, ua (ua (ua (ua s.2 13 (upd (s.2 13) x5.toNatClampNeg (vp_nar .boolean 0))) 10 (upd (s.2 10) x5.toNatClampNeg v23)) 11 (upd (s.2 11) x5.toNatClampNeg v26)) 12 (upd (s.2 12) x5.toNatClampNeg v29))) ∧ (¬ ((upd (s.2 13) x5.toNatClampNeg (vp_nar .boolean 0)) x5.toNatClampNeg) = 0 → vp_in x5 16 ∧ (∀ v35 : Int32, v35 = x4 + (s.2 4 x5.toNatClampNeg) → ∀ v36 : Int32, v36 = x5 + 1 → wl_M_SpillQueueModel_merge_6 Q K x1 x2 x3 n v35 v36 (s.1, ua (ua (ua (ua s.2 13 (upd (s.2 13) x5.toNatClampNeg (vp_nar .boolean 0))) 10 (upd (s.2 10) x5.toNatClampNeg v23)) 11 (upd (s.2 11) x5.toNatClampNeg v26)) 12 (upd (s.2 12) x5.toNatClampNeg v29)))))))))))))) ∧ ((s.2 5 x5.toNatClampNeg) = x2 → vp_in x5 16 ∧ (vp_in x5 16 ∧ (∀ v39 : Int32, v39 = s.2 2 x5.toNatClampNeg → vp_in x5 16 ∧ (vp_in x5 16 ∧ (∀ v42 : Int32, v42 = s.2 3 x5.toNatClampNeg → vp_in x5 16 ∧ (vp_in x5 16 ∧ (∀ v45 : Int32, v45 = s.2 4 x5.toNatClampNeg → vp_in x5 16 ∧ (vp_in x5 16 ∧ (((((upd (s.2 13) x5.toNatClampNeg (vp_nar .boolean 1)) x5.toNatClampNeg) = 0 → ∀ v49 : Int32, v49 = x5 + 1 → wl_M_SpillQueueModel_merge_6 Q K x1 x2 x3 n x4 v49 (s.1, ua (ua (ua (ua s.2 13 (upd (s.2 13) x5.toNatClampNeg (vp_nar .boolean 1))) 10 (upd (s.2 10) x5.toNatClampNeg v39)) 11 (upd (s.2 11) x5.toNatClampNeg v42)) 12 (upd (s.2 12) x5.toNatClampNeg v45))) ∧ (¬ ((upd (s.2 13) x5.toNatClampNeg (vp_nar .boolean 1)) x5.toNatClampNeg) = 0 → vp_in x5 16 ∧ (∀ v51 : Int32, v51 = x4 + (s.2 4 x5.toNatClampNeg) → ∀ v52 : Int32, v52 = x5 + 1 → wl_M_SpillQueueModel_merge_6 Q K x1 x2 x3 n v51 v52 (s.1, ua (ua (ua (ua s.2 13 (upd (s.2 13) x5.toNatClampNeg (vp_nar .boolean 1))) 10 (upd (s.2 10) x5.toNatClampNeg v39)) 11 (upd (s.2 11) x5.toNatClampNeg v42)) 12 (upd (s.2 12) x5.toNatClampNeg v45)))))))))))))))))))) := h
    refine g_iload C d_MO_merge_6 5 rfl ?_
    refine g_aload_n C d_MO_merge_8 rfl 0 rfl ?_
    refine g_get C (v := .int (s.1 12)) 0 14 iw_MO rfl rfl (by decide) (gt 745 (by decide +kernel) rfl) rfl rfl d_MO_merge_9 ?_
    refine g_icmp_ge C 117 d_MO_merge_12 (by decide) (fun c1 => ?_) (fun c1 => ?_)
    · have h := h.1 c1
      exact hK x4 x5 s h
    · have h := h.2 c1
      refine g_aload_n C d_MO_merge_15 rfl 0 rfl ?_
      refine g_get C (v := .ref (ad 14)) 0 26 iw_MO rfl rfl (by decide) (gt 757 (by decide +kernel) rfl) rfl rfl d_MO_merge_16 ?_
      refine g_iload C d_MO_merge_19 5 rfl ?_
      refine g_iload_n C d_MO_merge_21 rfl 1 rfl ?_
      refine g_if_ne C 36 d_MO_merge_22 (by decide) (fun c2 => ?_) (fun c2 => ?_)
      · have h := h.1 c2
        refine g_iconst C 1 d_MO_merge_36 (by decide) ?_
        refine g_goto C 41 d_MO_merge_37 (by decide) ?_
        obtain ⟨i3, h⟩ := h
        refine g_zast C 14 1 (ws2 := wM ad X (s.1, ua s.2 13 (upd (s.2 13) x5.toNatClampNeg (vp_nar .boolean 1)))) rfl rfl i3 rfl d_MO_merge_41 ?_
        refine g_aload_n C d_MO_merge_42 rfl 0 rfl ?_
        refine g_get C (v := .ref (ad 11)) 0 23 iw_MO rfl rfl (by decide) (gt 754 (by decide +kernel) rfl) rfl rfl d_MO_merge_43 ?_
        refine g_iload C d_MO_merge_46 5 rfl ?_
        refine g_aload_n C d_MO_merge_48 rfl 0 rfl ?_
        refine g_get C (v := .ref (ad 3)) 0 15 iw_MO rfl rfl (by decide) (gt 746 (by decide +kernel) rfl) rfl rfl d_MO_merge_49 ?_
        refine g_iload C d_MO_merge_52 5 rfl ?_
        obtain ⟨i4, h⟩ := h
        refine g_iald C 3 0 rfl rfl i4 d_MO_merge_54 ?_
        refine g_topi (fun v5 e_v5 => ?_)
        have h := h v5 e_v5
        obtain ⟨i6, h⟩ := h
        refine g_iast C 11 0 (ws2 := wM ad X (s.1, ua (ua s.2 13 (upd (s.2 13) x5.toNatClampNeg (vp_nar .boolean 1))) 10 (upd (s.2 10) x5.toNatClampNeg v5))) rfl rfl i6 rfl d_MO_merge_55 ?_
        refine g_aload_n C d_MO_merge_56 rfl 0 rfl ?_
        refine g_get C (v := .ref (ad 12)) 0 24 iw_MO rfl rfl (by decide) (gt 755 (by decide +kernel) rfl) rfl rfl d_MO_merge_57 ?_
        refine g_iload C d_MO_merge_60 5 rfl ?_
        refine g_aload_n C d_MO_merge_62 rfl 0 rfl ?_
        refine g_get C (v := .ref (ad 4)) 0 16 iw_MO rfl rfl (by decide) (gt 747 (by decide +kernel) rfl) rfl rfl d_MO_merge_63 ?_
        refine g_iload C d_MO_merge_66 5 rfl ?_
        obtain ⟨i7, h⟩ := h
        refine g_iald C 4 0 rfl rfl i7 d_MO_merge_68 ?_
        refine g_topi (fun v8 e_v8 => ?_)
        have h := h v8 e_v8
        obtain ⟨i9, h⟩ := h
        refine g_iast C 12 0 (ws2 := wM ad X (s.1, ua (ua (ua s.2 13 (upd (s.2 13) x5.toNatClampNeg (vp_nar .boolean 1))) 10 (upd (s.2 10) x5.toNatClampNeg v5)) 11 (upd (s.2 11) x5.toNatClampNeg v8))) rfl rfl i9 rfl d_MO_merge_69 ?_
        refine g_aload_n C d_MO_merge_70 rfl 0 rfl ?_
        refine g_get C (v := .ref (ad 13)) 0 25 iw_MO rfl rfl (by decide) (gt 756 (by decide +kernel) rfl) rfl rfl d_MO_merge_71 ?_
        refine g_iload C d_MO_merge_74 5 rfl ?_
        refine g_aload_n C d_MO_merge_76 rfl 0 rfl ?_
        refine g_get C (v := .ref (ad 5)) 0 17 iw_MO rfl rfl (by decide) (gt 748 (by decide +kernel) rfl) rfl rfl d_MO_merge_77 ?_
        refine g_iload C d_MO_merge_80 5 rfl ?_
        obtain ⟨i10, h⟩ := h
        refine g_iald C 5 0 rfl rfl i10 d_MO_merge_82 ?_
        refine g_topi (fun v11 e_v11 => ?_)
        have h := h v11 e_v11
        obtain ⟨i12, h⟩ := h
        refine g_iast C 13 0 (ws2 := wM ad X (s.1, ua (ua (ua (ua s.2 13 (upd (s.2 13) x5.toNatClampNeg (vp_nar .boolean 1))) 10 (upd (s.2 10) x5.toNatClampNeg v5)) 11 (upd (s.2 11) x5.toNatClampNeg v8)) 12 (upd (s.2 12) x5.toNatClampNeg v11))) rfl rfl i12 rfl d_MO_merge_83 ?_
        refine g_aload_n C d_MO_merge_84 rfl 0 rfl ?_
        refine g_get C (v := .ref (ad 14)) 0 26 iw_MO rfl rfl (by decide) (gt 757 (by decide +kernel) rfl) rfl rfl d_MO_merge_85 ?_
        refine g_iload C d_MO_merge_88 5 rfl ?_
        obtain ⟨i13, h⟩ := h
        refine g_zald C 14 1 rfl rfl i13 d_MO_merge_90 ?_
        refine g_if_eq C 107 d_MO_merge_91 (by decide) (fun c14 => ?_) (fun c14 => ?_)
        · have h := h.1 c14
          refine g_iload C d_MO_merge_107 4 rfl ?_
          refine g_istore C (lv2 := [(0, .ref (ad 0)), (1, .int x1), (2, .int x2), (3, .int x3), (4, .int x4), (5, .int x5)]) d_MO_merge_109 (by decide) rfl ?_
          obtain ⟨v15, e_v15⟩ : ∃ y : Int32, y = x5 + 1 := ⟨_, rfl⟩
          have h := h v15 e_v15
          refine g_iinc C (v := v15) (lv2 := [(0, .ref (ad 0)), (1, .int x1), (2, .int x2), (3, .int x3), (4, .int x4), (5, .int v15)]) d_MO_merge_111 5 rfl (by rw [e_v15]; rfl) (by decide) rfl ?_
          refine g_goto C 6 d_MO_merge_114 (by decide) ?_
          exact ih x4 v15 (s.1, ua (ua (ua (ua s.2 13 (upd (s.2 13) x5.toNatClampNeg (vp_nar .boolean 1))) 10 (upd (s.2 10) x5.toNatClampNeg v5)) 11 (upd (s.2 11) x5.toNatClampNeg v8)) 12 (upd (s.2 12) x5.toNatClampNeg v11)) h
        · have h := h.2 c14
          refine g_iload C d_MO_merge_94 4 rfl ?_
          refine g_aload_n C d_MO_merge_96 rfl 0 rfl ?_
          refine g_get C (v := .ref (ad 5)) 0 17 iw_MO rfl rfl (by decide) (gt 748 (by decide +kernel) rfl) rfl rfl d_MO_merge_97 ?_
          refine g_iload C d_MO_merge_100 5 rfl ?_
          obtain ⟨i16, h⟩ := h
          refine g_iald C 5 0 rfl rfl i16 d_MO_merge_102 ?_
          refine g_iadd C d_MO_merge_103 ?_
          refine g_goto C 109 d_MO_merge_104 (by decide) ?_
          refine g_topi (fun v17 e_v17 => ?_)
          have h := h v17 e_v17
          refine g_istore C (lv2 := [(0, .ref (ad 0)), (1, .int x1), (2, .int x2), (3, .int x3), (4, .int v17), (5, .int x5)]) d_MO_merge_109 (by decide) rfl ?_
          obtain ⟨v18, e_v18⟩ : ∃ y : Int32, y = x5 + 1 := ⟨_, rfl⟩
          have h := h v18 e_v18
          refine g_iinc C (v := v18) (lv2 := [(0, .ref (ad 0)), (1, .int x1), (2, .int x2), (3, .int x3), (4, .int v17), (5, .int v18)]) d_MO_merge_111 5 rfl (by rw [e_v18]; rfl) (by decide) rfl ?_
          refine g_goto C 6 d_MO_merge_114 (by decide) ?_
          exact ih v17 v18 (s.1, ua (ua (ua (ua s.2 13 (upd (s.2 13) x5.toNatClampNeg (vp_nar .boolean 1))) 10 (upd (s.2 10) x5.toNatClampNeg v5)) 11 (upd (s.2 11) x5.toNatClampNeg v8)) 12 (upd (s.2 12) x5.toNatClampNeg v11)) h
      · have h := h.2 c2
        refine g_aload_n C d_MO_merge_25 rfl 0 rfl ?_
        refine g_get C (v := .ref (ad 6)) 0 18 iw_MO rfl rfl (by decide) (gt 749 (by decide +kernel) rfl) rfl rfl d_MO_merge_26 ?_
        refine g_iload C d_MO_merge_29 5 rfl ?_
        obtain ⟨i19, h⟩ := h
        refine g_iald C 6 0 rfl rfl i19 d_MO_merge_31 ?_
        refine g_iload_n C d_MO_merge_32 rfl 2 rfl ?_
        refine g_icmp_ne C 40 d_MO_merge_33 (by decide) (fun c20 => ?_) (fun c20 => ?_)
        · have h := h.1 c20
          refine g_iconst C 0 d_MO_merge_40 (by decide) ?_
          obtain ⟨i21, h⟩ := h
          refine g_zast C 14 1 (ws2 := wM ad X (s.1, ua s.2 13 (upd (s.2 13) x5.toNatClampNeg (vp_nar .boolean 0)))) rfl rfl i21 rfl d_MO_merge_41 ?_
          refine g_aload_n C d_MO_merge_42 rfl 0 rfl ?_
          refine g_get C (v := .ref (ad 11)) 0 23 iw_MO rfl rfl (by decide) (gt 754 (by decide +kernel) rfl) rfl rfl d_MO_merge_43 ?_
          refine g_iload C d_MO_merge_46 5 rfl ?_
          refine g_aload_n C d_MO_merge_48 rfl 0 rfl ?_
          refine g_get C (v := .ref (ad 3)) 0 15 iw_MO rfl rfl (by decide) (gt 746 (by decide +kernel) rfl) rfl rfl d_MO_merge_49 ?_
          refine g_iload C d_MO_merge_52 5 rfl ?_
          obtain ⟨i22, h⟩ := h
          refine g_iald C 3 0 rfl rfl i22 d_MO_merge_54 ?_
          refine g_topi (fun v23 e_v23 => ?_)
          have h := h v23 e_v23
          obtain ⟨i24, h⟩ := h
          refine g_iast C 11 0 (ws2 := wM ad X (s.1, ua (ua s.2 13 (upd (s.2 13) x5.toNatClampNeg (vp_nar .boolean 0))) 10 (upd (s.2 10) x5.toNatClampNeg v23))) rfl rfl i24 rfl d_MO_merge_55 ?_
          refine g_aload_n C d_MO_merge_56 rfl 0 rfl ?_
          refine g_get C (v := .ref (ad 12)) 0 24 iw_MO rfl rfl (by decide) (gt 755 (by decide +kernel) rfl) rfl rfl d_MO_merge_57 ?_
          refine g_iload C d_MO_merge_60 5 rfl ?_
          refine g_aload_n C d_MO_merge_62 rfl 0 rfl ?_
          refine g_get C (v := .ref (ad 4)) 0 16 iw_MO rfl rfl (by decide) (gt 747 (by decide +kernel) rfl) rfl rfl d_MO_merge_63 ?_
          refine g_iload C d_MO_merge_66 5 rfl ?_
          obtain ⟨i25, h⟩ := h
          refine g_iald C 4 0 rfl rfl i25 d_MO_merge_68 ?_
          refine g_topi (fun v26 e_v26 => ?_)
          have h := h v26 e_v26
          obtain ⟨i27, h⟩ := h
          refine g_iast C 12 0 (ws2 := wM ad X (s.1, ua (ua (ua s.2 13 (upd (s.2 13) x5.toNatClampNeg (vp_nar .boolean 0))) 10 (upd (s.2 10) x5.toNatClampNeg v23)) 11 (upd (s.2 11) x5.toNatClampNeg v26))) rfl rfl i27 rfl d_MO_merge_69 ?_
          refine g_aload_n C d_MO_merge_70 rfl 0 rfl ?_
          refine g_get C (v := .ref (ad 13)) 0 25 iw_MO rfl rfl (by decide) (gt 756 (by decide +kernel) rfl) rfl rfl d_MO_merge_71 ?_
          refine g_iload C d_MO_merge_74 5 rfl ?_
          refine g_aload_n C d_MO_merge_76 rfl 0 rfl ?_
          refine g_get C (v := .ref (ad 5)) 0 17 iw_MO rfl rfl (by decide) (gt 748 (by decide +kernel) rfl) rfl rfl d_MO_merge_77 ?_
          refine g_iload C d_MO_merge_80 5 rfl ?_
          obtain ⟨i28, h⟩ := h
          refine g_iald C 5 0 rfl rfl i28 d_MO_merge_82 ?_
          refine g_topi (fun v29 e_v29 => ?_)
          have h := h v29 e_v29
          obtain ⟨i30, h⟩ := h
          refine g_iast C 13 0 (ws2 := wM ad X (s.1, ua (ua (ua (ua s.2 13 (upd (s.2 13) x5.toNatClampNeg (vp_nar .boolean 0))) 10 (upd (s.2 10) x5.toNatClampNeg v23)) 11 (upd (s.2 11) x5.toNatClampNeg v26)) 12 (upd (s.2 12) x5.toNatClampNeg v29))) rfl rfl i30 rfl d_MO_merge_83 ?_
          refine g_aload_n C d_MO_merge_84 rfl 0 rfl ?_
          refine g_get C (v := .ref (ad 14)) 0 26 iw_MO rfl rfl (by decide) (gt 757 (by decide +kernel) rfl) rfl rfl d_MO_merge_85 ?_
          refine g_iload C d_MO_merge_88 5 rfl ?_
          obtain ⟨i31, h⟩ := h
          refine g_zald C 14 1 rfl rfl i31 d_MO_merge_90 ?_
          refine g_if_eq C 107 d_MO_merge_91 (by decide) (fun c32 => ?_) (fun c32 => ?_)
          · have h := h.1 c32
            refine g_iload C d_MO_merge_107 4 rfl ?_
            refine g_istore C (lv2 := [(0, .ref (ad 0)), (1, .int x1), (2, .int x2), (3, .int x3), (4, .int x4), (5, .int x5)]) d_MO_merge_109 (by decide) rfl ?_
            obtain ⟨v33, e_v33⟩ : ∃ y : Int32, y = x5 + 1 := ⟨_, rfl⟩
            have h := h v33 e_v33
            refine g_iinc C (v := v33) (lv2 := [(0, .ref (ad 0)), (1, .int x1), (2, .int x2), (3, .int x3), (4, .int x4), (5, .int v33)]) d_MO_merge_111 5 rfl (by rw [e_v33]; rfl) (by decide) rfl ?_
            refine g_goto C 6 d_MO_merge_114 (by decide) ?_
            exact ih x4 v33 (s.1, ua (ua (ua (ua s.2 13 (upd (s.2 13) x5.toNatClampNeg (vp_nar .boolean 0))) 10 (upd (s.2 10) x5.toNatClampNeg v23)) 11 (upd (s.2 11) x5.toNatClampNeg v26)) 12 (upd (s.2 12) x5.toNatClampNeg v29)) h
          · have h := h.2 c32
            refine g_iload C d_MO_merge_94 4 rfl ?_
            refine g_aload_n C d_MO_merge_96 rfl 0 rfl ?_
            refine g_get C (v := .ref (ad 5)) 0 17 iw_MO rfl rfl (by decide) (gt 748 (by decide +kernel) rfl) rfl rfl d_MO_merge_97 ?_
            refine g_iload C d_MO_merge_100 5 rfl ?_
            obtain ⟨i34, h⟩ := h
            refine g_iald C 5 0 rfl rfl i34 d_MO_merge_102 ?_
            refine g_iadd C d_MO_merge_103 ?_
            refine g_goto C 109 d_MO_merge_104 (by decide) ?_
            refine g_topi (fun v35 e_v35 => ?_)
            have h := h v35 e_v35
            refine g_istore C (lv2 := [(0, .ref (ad 0)), (1, .int x1), (2, .int x2), (3, .int x3), (4, .int v35), (5, .int x5)]) d_MO_merge_109 (by decide) rfl ?_
            obtain ⟨v36, e_v36⟩ : ∃ y : Int32, y = x5 + 1 := ⟨_, rfl⟩
            have h := h v36 e_v36
            refine g_iinc C (v := v36) (lv2 := [(0, .ref (ad 0)), (1, .int x1), (2, .int x2), (3, .int x3), (4, .int v35), (5, .int v36)]) d_MO_merge_111 5 rfl (by rw [e_v36]; rfl) (by decide) rfl ?_
            refine g_goto C 6 d_MO_merge_114 (by decide) ?_
            exact ih v35 v36 (s.1, ua (ua (ua (ua s.2 13 (upd (s.2 13) x5.toNatClampNeg (vp_nar .boolean 0))) 10 (upd (s.2 10) x5.toNatClampNeg v23)) 11 (upd (s.2 11) x5.toNatClampNeg v26)) 12 (upd (s.2 12) x5.toNatClampNeg v29)) h
        · have h := h.2 c20
          refine g_iconst C 1 d_MO_merge_36 (by decide) ?_
          refine g_goto C 41 d_MO_merge_37 (by decide) ?_
          obtain ⟨i37, h⟩ := h
          refine g_zast C 14 1 (ws2 := wM ad X (s.1, ua s.2 13 (upd (s.2 13) x5.toNatClampNeg (vp_nar .boolean 1)))) rfl rfl i37 rfl d_MO_merge_41 ?_
          refine g_aload_n C d_MO_merge_42 rfl 0 rfl ?_
          refine g_get C (v := .ref (ad 11)) 0 23 iw_MO rfl rfl (by decide) (gt 754 (by decide +kernel) rfl) rfl rfl d_MO_merge_43 ?_
          refine g_iload C d_MO_merge_46 5 rfl ?_
          refine g_aload_n C d_MO_merge_48 rfl 0 rfl ?_
          refine g_get C (v := .ref (ad 3)) 0 15 iw_MO rfl rfl (by decide) (gt 746 (by decide +kernel) rfl) rfl rfl d_MO_merge_49 ?_
          refine g_iload C d_MO_merge_52 5 rfl ?_
          obtain ⟨i38, h⟩ := h
          refine g_iald C 3 0 rfl rfl i38 d_MO_merge_54 ?_
          refine g_topi (fun v39 e_v39 => ?_)
          have h := h v39 e_v39
          obtain ⟨i40, h⟩ := h
          refine g_iast C 11 0 (ws2 := wM ad X (s.1, ua (ua s.2 13 (upd (s.2 13) x5.toNatClampNeg (vp_nar .boolean 1))) 10 (upd (s.2 10) x5.toNatClampNeg v39))) rfl rfl i40 rfl d_MO_merge_55 ?_
          refine g_aload_n C d_MO_merge_56 rfl 0 rfl ?_
          refine g_get C (v := .ref (ad 12)) 0 24 iw_MO rfl rfl (by decide) (gt 755 (by decide +kernel) rfl) rfl rfl d_MO_merge_57 ?_
          refine g_iload C d_MO_merge_60 5 rfl ?_
          refine g_aload_n C d_MO_merge_62 rfl 0 rfl ?_
          refine g_get C (v := .ref (ad 4)) 0 16 iw_MO rfl rfl (by decide) (gt 747 (by decide +kernel) rfl) rfl rfl d_MO_merge_63 ?_
          refine g_iload C d_MO_merge_66 5 rfl ?_
          obtain ⟨i41, h⟩ := h
          refine g_iald C 4 0 rfl rfl i41 d_MO_merge_68 ?_
          refine g_topi (fun v42 e_v42 => ?_)
          have h := h v42 e_v42
          obtain ⟨i43, h⟩ := h
          refine g_iast C 12 0 (ws2 := wM ad X (s.1, ua (ua (ua s.2 13 (upd (s.2 13) x5.toNatClampNeg (vp_nar .boolean 1))) 10 (upd (s.2 10) x5.toNatClampNeg v39)) 11 (upd (s.2 11) x5.toNatClampNeg v42))) rfl rfl i43 rfl d_MO_merge_69 ?_
          refine g_aload_n C d_MO_merge_70 rfl 0 rfl ?_
          refine g_get C (v := .ref (ad 13)) 0 25 iw_MO rfl rfl (by decide) (gt 756 (by decide +kernel) rfl) rfl rfl d_MO_merge_71 ?_
          refine g_iload C d_MO_merge_74 5 rfl ?_
          refine g_aload_n C d_MO_merge_76 rfl 0 rfl ?_
          refine g_get C (v := .ref (ad 5)) 0 17 iw_MO rfl rfl (by decide) (gt 748 (by decide +kernel) rfl) rfl rfl d_MO_merge_77 ?_
          refine g_iload C d_MO_merge_80 5 rfl ?_
          obtain ⟨i44, h⟩ := h
          refine g_iald C 5 0 rfl rfl i44 d_MO_merge_82 ?_
          refine g_topi (fun v45 e_v45 => ?_)
          have h := h v45 e_v45
          obtain ⟨i46, h⟩ := h
          refine g_iast C 13 0 (ws2 := wM ad X (s.1, ua (ua (ua (ua s.2 13 (upd (s.2 13) x5.toNatClampNeg (vp_nar .boolean 1))) 10 (upd (s.2 10) x5.toNatClampNeg v39)) 11 (upd (s.2 11) x5.toNatClampNeg v42)) 12 (upd (s.2 12) x5.toNatClampNeg v45))) rfl rfl i46 rfl d_MO_merge_83 ?_
          refine g_aload_n C d_MO_merge_84 rfl 0 rfl ?_
          refine g_get C (v := .ref (ad 14)) 0 26 iw_MO rfl rfl (by decide) (gt 757 (by decide +kernel) rfl) rfl rfl d_MO_merge_85 ?_
          refine g_iload C d_MO_merge_88 5 rfl ?_
          obtain ⟨i47, h⟩ := h
          refine g_zald C 14 1 rfl rfl i47 d_MO_merge_90 ?_
          refine g_if_eq C 107 d_MO_merge_91 (by decide) (fun c48 => ?_) (fun c48 => ?_)
          · have h := h.1 c48
            refine g_iload C d_MO_merge_107 4 rfl ?_
            refine g_istore C (lv2 := [(0, .ref (ad 0)), (1, .int x1), (2, .int x2), (3, .int x3), (4, .int x4), (5, .int x5)]) d_MO_merge_109 (by decide) rfl ?_
            obtain ⟨v49, e_v49⟩ : ∃ y : Int32, y = x5 + 1 := ⟨_, rfl⟩
            have h := h v49 e_v49
            refine g_iinc C (v := v49) (lv2 := [(0, .ref (ad 0)), (1, .int x1), (2, .int x2), (3, .int x3), (4, .int x4), (5, .int v49)]) d_MO_merge_111 5 rfl (by rw [e_v49]; rfl) (by decide) rfl ?_
            refine g_goto C 6 d_MO_merge_114 (by decide) ?_
            exact ih x4 v49 (s.1, ua (ua (ua (ua s.2 13 (upd (s.2 13) x5.toNatClampNeg (vp_nar .boolean 1))) 10 (upd (s.2 10) x5.toNatClampNeg v39)) 11 (upd (s.2 11) x5.toNatClampNeg v42)) 12 (upd (s.2 12) x5.toNatClampNeg v45)) h
          · have h := h.2 c48
            refine g_iload C d_MO_merge_94 4 rfl ?_
            refine g_aload_n C d_MO_merge_96 rfl 0 rfl ?_
            refine g_get C (v := .ref (ad 5)) 0 17 iw_MO rfl rfl (by decide) (gt 748 (by decide +kernel) rfl) rfl rfl d_MO_merge_97 ?_
            refine g_iload C d_MO_merge_100 5 rfl ?_
            obtain ⟨i50, h⟩ := h
            refine g_iald C 5 0 rfl rfl i50 d_MO_merge_102 ?_
            refine g_iadd C d_MO_merge_103 ?_
            refine g_goto C 109 d_MO_merge_104 (by decide) ?_
            refine g_topi (fun v51 e_v51 => ?_)
            have h := h v51 e_v51
            refine g_istore C (lv2 := [(0, .ref (ad 0)), (1, .int x1), (2, .int x2), (3, .int x3), (4, .int v51), (5, .int x5)]) d_MO_merge_109 (by decide) rfl ?_
            obtain ⟨v52, e_v52⟩ : ∃ y : Int32, y = x5 + 1 := ⟨_, rfl⟩
            have h := h v52 e_v52
            refine g_iinc C (v := v52) (lv2 := [(0, .ref (ad 0)), (1, .int x1), (2, .int x2), (3, .int x3), (4, .int v51), (5, .int v52)]) d_MO_merge_111 5 rfl (by rw [e_v52]; rfl) (by decide) rfl ?_
            refine g_goto C 6 d_MO_merge_114 (by decide) ?_
            exact ih v51 v52 (s.1, ua (ua (ua (ua s.2 13 (upd (s.2 13) x5.toNatClampNeg (vp_nar .boolean 1))) 10 (upd (s.2 10) x5.toNatClampNeg v39)) 11 (upd (s.2 11) x5.toNatClampNeg v42)) 12 (upd (s.2 12) x5.toNatClampNeg v45)) h
def wl_M_SpillQueueModel_merge_151 (Q : Int32 → gS → Prop) (K : Int32 → gS → Prop) (x1 : Int32) (x2 : Int32) (x3 : Int32) (x4 : Int32) (x5 : Int32) : Nat → Int32 → gS → Prop
  | 0, _, _ => False
  | n + 1, x6, s => ((x6 < 0 → K x6 s) ∧ (¬ x6 < 0 → ((¬ x1 = 0 → wp_M_SpillQueueModel_dropRun x6 s (fun s67 => ∀ v69 : Int32, v69 = x6 + Int32.ofInt (-1) → wl_M_SpillQueueModel_merge_151 Q K x1 x2 x3 x4 x5 n v69 s67)) ∧ (x1 = 0 → vp_in x6 16 ∧ (((¬ (s.2 5 x6.toNatClampNeg) = x2 → ∀ v72 : Int32, v72 = x6 + Int32.ofInt (-1) → wl_M_SpillQueueModel_merge_151 Q K x1 x2 x3 x4 x5 n v72 s) ∧ ((s.2 5 x6.toNatClampNeg) = x2 → wp_M_SpillQueueModel_dropRun x6 s (fun s73 => ∀ v75 : Int32, v75 = x6 + Int32.ofInt (-1) → wl_M_SpillQueueModel_merge_151 Q K x1 x2 x3 x4 x5 n v75 s73))))))))
set_option maxHeartbeats 4000000 in
set_option maxRecDepth 100000 in
theorem w_M_SpillQueueModel_merge_151 (X : gX) (ad : Nat → Nat) (Q : Int32 → gS → Prop) (K : Int32 → gS → Prop) (x1 : Int32) (x2 : Int32) (x3 : Int32) (x4 : Int32) (x5 : Int32) (E : gE) (C : gC X E b_MO_merge 7 R_MO) (hRm : gRm E = rm_M_SpillQueueModel_merge) (r : gR X E b_MO_merge (some .boolean) (gBi (wM ad X) Q)) (hK : ∀ (x6 : Int32) (s : gS), K x6 s → gW X E 0 0 (wM ad X s) [(0, .ref (ad 0)), (1, .int x1), (2, .int x2), (3, .int x3), (4, .int x4), (5, .int x5), (6, .int x6)] 183 []) : ∀ (n : Nat) (x6 : Int32) (s : gS), wl_M_SpillQueueModel_merge_151 Q K x1 x2 x3 x4 x5 n x6 s → gW X E 0 0 (wM ad X s) [(0, .ref (ad 0)), (1, .int x1), (2, .int x2), (3, .int x3), (4, .int x4), (5, .int x5), (6, .int x6)] 151 [] := by
  intro n
  induction n with
  | zero => intro x6 s h; exact False.elim h
  | succ n ih =>
    intro x6 s h
    have h : ((x6 < 0 → K x6 s) ∧ (¬ x6 < 0 → ((¬ x1 = 0 → wp_M_SpillQueueModel_dropRun x6 s (fun s67 => ∀ v69 : Int32, v69 = x6 + Int32.ofInt (-1) → wl_M_SpillQueueModel_merge_151 Q K x1 x2 x3 x4 x5 n v69 s67)) ∧ (x1 = 0 → vp_in x6 16 ∧ (((¬ (s.2 5 x6.toNatClampNeg) = x2 → ∀ v72 : Int32, v72 = x6 + Int32.ofInt (-1) → wl_M_SpillQueueModel_merge_151 Q K x1 x2 x3 x4 x5 n v72 s) ∧ ((s.2 5 x6.toNatClampNeg) = x2 → wp_M_SpillQueueModel_dropRun x6 s (fun s73 => ∀ v75 : Int32, v75 = x6 + Int32.ofInt (-1) → wl_M_SpillQueueModel_merge_151 Q K x1 x2 x3 x4 x5 n v75 s73)))))))) := h
    refine g_iload C d_MO_merge_151 6 rfl ?_
    refine g_if_lt C 183 d_MO_merge_153 (by decide) (fun c65 => ?_) (fun c65 => ?_)
    · have h := h.1 c65
      exact hK x6 s h
    · have h := h.2 c65
      refine g_iload_n C d_MO_merge_156 rfl 1 rfl ?_
      refine g_if_ne C 171 d_MO_merge_157 (by decide) (fun c66 => ?_) (fun c66 => ?_)
      · have h := h.1 c66
        refine g_aload_n C d_MO_merge_171 rfl 0 rfl ?_
        refine g_iload C d_MO_merge_172 6 rfl ?_
        refine g_callV C (rest := []) 0 (fun l => m_M_SpillQueueModel_dropRun X ad x6 s _ h l) rfl rfl (gt 904 (by decide +kernel) rfl) cb_MO_dropRun ⟨rfl, rfl⟩ (by rw [hRm]; decide) ⟨Nat.zero_le _, Nat.zero_le _⟩ rfl rfl (Nat.le_of_ble_eq_true rfl) d_MO_merge_174 (gkv (fun s67 h => ?_))
        obtain ⟨v69, e_v69⟩ : ∃ y : Int32, y = x6 + Int32.ofInt (-1) := ⟨_, rfl⟩
        have h := h v69 e_v69
        refine g_iinc C (v := v69) (lv2 := [(0, .ref (ad 0)), (1, .int x1), (2, .int x2), (3, .int x3), (4, .int x4), (5, .int x5), (6, .int v69)]) d_MO_merge_177 6 rfl e_v69.symm (by decide) rfl ?_
        refine g_goto C 151 d_MO_merge_180 (by decide) ?_
        exact ih v69 s67 h
      · have h := h.2 c66
        refine g_aload_n C d_MO_merge_160 rfl 0 rfl ?_
        refine g_get C (v := .ref (ad 6)) 0 18 iw_MO rfl rfl (by decide) (gt 749 (by decide +kernel) rfl) rfl rfl d_MO_merge_161 ?_
        refine g_iload C d_MO_merge_164 6 rfl ?_
        obtain ⟨i70, h⟩ := h
        refine g_iald C 6 0 rfl rfl i70 d_MO_merge_166 ?_
        refine g_iload_n C d_MO_merge_167 rfl 2 rfl ?_
        refine g_icmp_ne C 177 d_MO_merge_168 (by decide) (fun c71 => ?_) (fun c71 => ?_)
        · have h := h.1 c71
          obtain ⟨v72, e_v72⟩ : ∃ y : Int32, y = x6 + Int32.ofInt (-1) := ⟨_, rfl⟩
          have h := h v72 e_v72
          refine g_iinc C (v := v72) (lv2 := [(0, .ref (ad 0)), (1, .int x1), (2, .int x2), (3, .int x3), (4, .int x4), (5, .int x5), (6, .int v72)]) d_MO_merge_177 6 rfl e_v72.symm (by decide) rfl ?_
          refine g_goto C 151 d_MO_merge_180 (by decide) ?_
          exact ih v72 s h
        · have h := h.2 c71
          refine g_aload_n C d_MO_merge_171 rfl 0 rfl ?_
          refine g_iload C d_MO_merge_172 6 rfl ?_
          refine g_callV C (rest := []) 0 (fun l => m_M_SpillQueueModel_dropRun X ad x6 s _ h l) rfl rfl (gt 904 (by decide +kernel) rfl) cb_MO_dropRun ⟨rfl, rfl⟩ (by rw [hRm]; decide) ⟨Nat.zero_le _, Nat.zero_le _⟩ rfl rfl (Nat.le_of_ble_eq_true rfl) d_MO_merge_174 (gkv (fun s73 h => ?_))
          obtain ⟨v75, e_v75⟩ : ∃ y : Int32, y = x6 + Int32.ofInt (-1) := ⟨_, rfl⟩
          have h := h v75 e_v75
          refine g_iinc C (v := v75) (lv2 := [(0, .ref (ad 0)), (1, .int x1), (2, .int x2), (3, .int x3), (4, .int x4), (5, .int x5), (6, .int v75)]) d_MO_merge_177 6 rfl e_v75.symm (by decide) rfl ?_
          refine g_goto C 151 d_MO_merge_180 (by decide) ?_
          exact ih v75 s73 h
def wp_M_SpillQueueModel_merge (a1 : Int32) (a2 : Int32) (a3 : Int32) (s : gS) (Q : Int32 → gS → Prop) : Prop := ∃ n53 : Nat, wl_M_SpillQueueModel_merge_6 Q (fun v55 v56 s54 => wp_M_SpillQueueModel_choose v55 s54 (fun r58 s57 => ((¬ r58 = 0 → wp_M_SpillQueueModel_writeKeys v55 0 s57 (fun s60 => vp_in 0 200 ∧ (∀ v63 : Int32, v63 = s60.2 9 (0 : Int32).toNatClampNeg → ∀ v64 : Int32, v64 = (s60.1 12) - 1 → ∃ n76 : Nat, wl_M_SpillQueueModel_merge_151 Q (fun v78 s77 => wp_M_SpillQueueModel_addRun v63 v55 a3 s77 (fun s79 => Q 1 s79)) a1 a2 a3 v55 v63 n76 v64 s60))) ∧ (r58 = 0 → Q 0 s57)))) a1 a2 a3 n53 0 0 s
set_option maxHeartbeats 4000000 in
set_option maxRecDepth 100000 in
theorem w_M_SpillQueueModel_merge (X : gX) (ad : Nat → Nat) (a1 : Int32) (a2 : Int32) (a3 : Int32) (s : gS) (Q : Int32 → gS → Prop) (h : wp_M_SpillQueueModel_merge a1 a2 a3 s Q) (E : gE) (C : gC X E b_MO_merge 7 R_MO) (hRm : gRm E = rm_M_SpillQueueModel_merge) (r : gR X E b_MO_merge (some .boolean) (gBi (wM ad X) Q)) : gW X E 0 0 (wM ad X s) [(0, .ref (ad 0)), (1, .int a1), (2, .int a2), (3, .int a3)] 0 [] := by
  have h : ∃ n53 : Nat, wl_M_SpillQueueModel_merge_6 Q (fun v55 v56 s54 => wp_M_SpillQueueModel_choose v55 s54 (fun r58 s57 => ((¬ r58 = 0 → wp_M_SpillQueueModel_writeKeys v55 0 s57 (fun s60 => vp_in 0 200 ∧ (∀ v63 : Int32, v63 = s60.2 9 (0 : Int32).toNatClampNeg → ∀ v64 : Int32, v64 = (s60.1 12) - 1 → ∃ n76 : Nat, wl_M_SpillQueueModel_merge_151 Q (fun v78 s77 => wp_M_SpillQueueModel_addRun v63 v55 a3 s77 (fun s79 => Q 1 s79)) a1 a2 a3 v55 v63 n76 v64 s60))) ∧ (r58 = 0 → Q 0 s57)))) a1 a2 a3 n53 0 0 s := h
  refine g_iconst C 0 d_MO_merge_0 (by decide) ?_
  refine g_istore C (lv2 := [(0, .ref (ad 0)), (1, .int a1), (2, .int a2), (3, .int a3), (4, .int 0)]) d_MO_merge_1 (by decide) rfl ?_
  refine g_iconst C 0 d_MO_merge_3 (by decide) ?_
  refine g_istore C (lv2 := [(0, .ref (ad 0)), (1, .int a1), (2, .int a2), (3, .int a3), (4, .int 0), (5, .int 0)]) d_MO_merge_4 (by decide) rfl ?_
  obtain ⟨n53, h⟩ := h
  refine w_M_SpillQueueModel_merge_6 X ad Q (_) a1 a2 a3 E C hRm r ?_ n53 0 0 s h
  intro v55 v56 s54 h
  refine g_aload_n C d_MO_merge_117 rfl 0 rfl ?_
  refine g_iload C d_MO_merge_118 4 rfl ?_
  refine g_callV C (rest := []) 0 (fun l => m_M_SpillQueueModel_choose X ad v55 s54 _ h l) rfl rfl (gt 876 (by decide +kernel) rfl) cb_MO_choose ⟨rfl, rfl⟩ (by rw [hRm]; decide) ⟨Nat.zero_le _, Nat.zero_le _⟩ rfl rfl (Nat.le_of_ble_eq_true rfl) d_MO_merge_120 (gki (fun r58 s57 h => ?_))
  refine g_if_ne C 128 d_MO_merge_123 (by decide) (fun c59 => ?_) (fun c59 => ?_)
  · have h := h.1 c59
    refine g_aload_n C d_MO_merge_128 rfl 0 rfl ?_
    refine g_iload C d_MO_merge_129 4 rfl ?_
    refine g_iconst C 0 d_MO_merge_131 (by decide) ?_
    refine g_callV C (rest := []) 0 (fun l => m_M_SpillQueueModel_writeKeys X ad v55 0 s57 _ h l) rfl rfl (gt 888 (by decide +kernel) rfl) cb_MO_writeKeys ⟨rfl, rfl⟩ (by rw [hRm]; decide) ⟨Nat.zero_le _, Nat.zero_le _⟩ rfl rfl (Nat.le_of_ble_eq_true rfl) d_MO_merge_132 (gkv (fun s60 h => ?_))
    refine g_aload_n C d_MO_merge_135 rfl 0 rfl ?_
    refine g_get C (v := .ref (ad 10)) 0 22 iw_MO rfl rfl (by decide) (gt 753 (by decide +kernel) rfl) rfl rfl d_MO_merge_136 ?_
    refine g_iconst C 0 d_MO_merge_139 (by decide) ?_
    obtain ⟨i62, h⟩ := h
    refine g_iald C 10 0 rfl rfl i62 d_MO_merge_140 ?_
    refine g_topi (fun v63 e_v63 => ?_)
    have h := h v63 e_v63
    refine g_istore C (lv2 := [(0, .ref (ad 0)), (1, .int a1), (2, .int a2), (3, .int a3), (4, .int v55), (5, .int v63)]) d_MO_merge_141 (by decide) rfl ?_
    refine g_aload_n C d_MO_merge_143 rfl 0 rfl ?_
    refine g_get C (v := .int (s60.1 12)) 0 14 iw_MO rfl rfl (by decide) (gt 745 (by decide +kernel) rfl) rfl rfl d_MO_merge_144 ?_
    refine g_iconst C 1 d_MO_merge_147 (by decide) ?_
    refine g_isub C d_MO_merge_148 ?_
    refine g_topi (fun v64 e_v64 => ?_)
    have h := h v64 e_v64
    refine g_istore C (lv2 := [(0, .ref (ad 0)), (1, .int a1), (2, .int a2), (3, .int a3), (4, .int v55), (5, .int v63), (6, .int v64)]) d_MO_merge_149 (by decide) rfl ?_
    obtain ⟨n76, h⟩ := h
    refine w_M_SpillQueueModel_merge_151 X ad Q (_) a1 a2 a3 v55 v63 E C hRm r ?_ n76 v64 s60 h
    intro v78 s77 h
    refine g_aload_n C d_MO_merge_183 rfl 0 rfl ?_
    refine g_iload C d_MO_merge_184 5 rfl ?_
    refine g_iload C d_MO_merge_186 4 rfl ?_
    refine g_iload_n C d_MO_merge_188 rfl 3 rfl ?_
    refine g_callV C (rest := []) 0 (fun l => m_M_SpillQueueModel_addRun X ad v63 v55 a3 s77 _ h l) rfl rfl (gt 908 (by decide +kernel) rfl) cb_MO_addRun ⟨rfl, rfl⟩ (by rw [hRm]; decide) ⟨Nat.zero_le _, Nat.zero_le _⟩ rfl rfl (Nat.le_of_ble_eq_true rfl) d_MO_merge_189 (gkv (fun s79 h => ?_))
    refine g_iconst C 1 d_MO_merge_192 (by decide) ?_
    exact g_iret r rfl d_MO_merge_193 (gBi_mk h)
  · have h := h.2 c59
    refine g_iconst C 0 d_MO_merge_126 (by decide) ?_
    exact g_iret r rfl d_MO_merge_127 (gBi_mk h)
theorem m_M_SpillQueueModel_merge (X : gX) (ad : Nat → Nat) (a1 : Int32) (a2 : Int32) (a3 : Int32) (s : gS) (Q : Int32 → gS → Prop) (h : wp_M_SpillQueueModel_merge a1 a2 a3 s Q) (l : Launch) : gM l X y_MO_merge b_MO_merge 7 (some .boolean) rm_M_SpillQueueModel_merge [.ref (ad 0), .int a1, .int a2, .int a3] (wM ad X s) (gBi (wM ad X) Q) :=
  gM_of (by decide +kernel) rfl (Nat.le_of_ble_eq_true rfl) rfl (fun E C hRm r => w_M_SpillQueueModel_merge X ad a1 a2 a3 s Q h E C hRm r)
