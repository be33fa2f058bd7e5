def rm_Disk_turnOver : Room := { frames := 1, cells := 0, slots := 0, locals := 22 }
def wp_Disk_turnOver (a1 : Int32) (a2 : Int32) (a3 : Int32) (s : gS) (Q : gS → Prop) : Prop := wp_Disk_has a1 a2 s (fun r2 s1 => ((r2 = 0 → Q s1) ∧ (¬ r2 = 0 → vp_in ((a1 * (s1.1 4)) + a2) 8000 ∧ (∀ v5 : Int32, v5 = (s1.2 0 ((a1 * (s1.1 4)) + a2).toNatClampNeg) ^^^ a3 → vp_in ((a1 * (s1.1 4)) + a2) 8000 ∧ (Q (s1.1, ua s1.2 0 (upd (s1.2 0) ((a1 * (s1.1 4)) + a2).toNatClampNeg v5)))))))
set_option maxHeartbeats 4000000 in
set_option maxRecDepth 100000 in
theorem w_Disk_turnOver (X : gX) (ad : Nat → Nat) (a1 : Int32) (a2 : Int32) (a3 : Int32) (s : gS) (Q : gS → Prop) (h : wp_Disk_turnOver a1 a2 a3 s Q) (E : gE) (C : gC X E b_DK_turnOver 4 R_DK) (hRm : gRm E = rm_Disk_turnOver) (r : gR X E b_DK_turnOver none (gBv (wC ad X) Q)) : gW X E 0 0 (wC ad X s) [(0, .ref (ad 1)), (1, .int a1), (2, .int a2), (3, .int a3)] 0 [] := by
  have h : wp_Disk_has a1 a2 s (fun r2 s1 => ((r2 = 0 → Q s1) ∧ (¬ r2 = 0 → vp_in ((a1 * (s1.1 4)) + a2) 8000 ∧ (∀ v5 : Int32, v5 = (s1.2 0 ((a1 * (s1.1 4)) + a2).toNatClampNeg) ^^^ a3 → vp_in ((a1 * (s1.1 4)) + a2) 8000 ∧ (Q (s1.1, ua s1.2 0 (upd (s1.2 0) ((a1 * (s1.1 4)) + a2).toNatClampNeg v5))))))) := h
  refine g_aload_n C d_DK_turnOver_0 rfl 0 rfl ?_
  refine g_iload_n C d_DK_turnOver_1 rfl 1 rfl ?_
  refine g_iload_n C d_DK_turnOver_2 rfl 2 rfl ?_
  refine g_callV C (rest := []) 1 (fun l => m_Disk_has X ad a1 a2 s _ h l) rfl rfl (gt 724 (by decide +kernel) rfl) cb_DK_has ⟨rfl, rfl⟩ (by rw [hRm]; decide) ⟨Nat.zero_le _, Nat.zero_le _⟩ rfl rfl (Nat.le_of_ble_eq_true rfl) d_DK_turnOver_3 (gki (fun r2 s1 h => ?_))
  refine g_if_eq C 26 d_DK_turnOver_6 (by decide) (fun c3 => ?_) (fun c3 => ?_)
  · have h := h.1 c3
    exact g_vret r d_DK_turnOver_26 (gBv_mk h)
  · have h := h.2 c3
    refine g_aload_n C d_DK_turnOver_9 rfl 0 rfl ?_
    refine g_get C (v := .ref (ad 2)) 1 0 iw_DK rfl rfl (by decide) (gt 118 (by decide +kernel) rfl) rfl rfl d_DK_turnOver_10 ?_
    refine g_iload_n C d_DK_turnOver_13 rfl 1 rfl ?_
    refine g_aload_n C d_DK_turnOver_14 rfl 0 rfl ?_
    refine g_get C (v := .int (s1.1 4)) 1 3 iw_DK rfl rfl (by decide) (gt 123 (by decide +kernel) rfl) rfl rfl d_DK_turnOver_15 ?_
    refine g_imul C d_DK_turnOver_18 ?_
    refine g_iload_n C d_DK_turnOver_19 rfl 2 rfl ?_
    refine g_iadd C d_DK_turnOver_20 ?_
    refine g_dup2 C rfl rfl d_DK_turnOver_21 ?_
    obtain ⟨i4, h⟩ := h
    refine g_iald C 2 0 rfl rfl i4 d_DK_turnOver_22 ?_
    refine g_iload_n C d_DK_turnOver_23 rfl 3 rfl ?_
    refine g_ixor C d_DK_turnOver_24 ?_
    refine g_topi (fun v5 e_v5 => ?_)
    have h := h v5 e_v5
    obtain ⟨i6, h⟩ := h
    refine g_iast C 2 0 (ws2 := wC ad X (s1.1, ua s1.2 0 (upd (s1.2 0) ((a1 * (s1.1 4)) + a2).toNatClampNeg v5))) rfl rfl i6 rfl d_DK_turnOver_25 ?_
    exact g_vret r d_DK_turnOver_26 (gBv_mk h)
theorem m_Disk_turnOver (X : gX) (ad : Nat → Nat) (a1 : Int32) (a2 : Int32) (a3 : Int32) (s : gS) (Q : gS → Prop) (h : wp_Disk_turnOver a1 a2 a3 s Q) (l : Launch) : gM l X y_DK_turnOver b_DK_turnOver 4 none rm_Disk_turnOver [.ref (ad 1), .int a1, .int a2, .int a3] (wC ad X s) (gBv (wC ad X) Q) :=
  gM_of (by decide +kernel) rfl (Nat.le_of_ble_eq_true rfl) rfl (fun E C hRm r => w_Disk_turnOver X ad a1 a2 a3 s Q h E C hRm r)
