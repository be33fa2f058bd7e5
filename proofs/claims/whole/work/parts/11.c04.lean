def rm_Runs_takeFrom : Room := { frames := 1, cells := 0, slots := 0, locals := 22 }
def wp_Runs_takeFrom (a1 : Int32) (s : gS) (Q : Int32 → gS → Prop) : Prop := wp_Runs_has a1 s (fun r2 s1 => ((¬ r2 = 0 → vp_in a1 9 ∧ (∀ v5 : Int32, v5 = s1.2 7 a1.toNatClampNeg → vp_in a1 9 ∧ (∀ v7 : Int32, v7 = (s1.2 4 a1.toNatClampNeg) + 1 → vp_in a1 9 ∧ (vp_in a1 9 ∧ (∀ v10 : Int32, v10 = (s1.2 5 a1.toNatClampNeg) - 1 → vp_in a1 9 ∧ (vp_in a1 9 ∧ (((((upd (s1.2 5) a1.toNatClampNeg v10) a1.toNatClampNeg) ≤ 0 → vp_in a1 9 ∧ (vp_in a1 9 ∧ (wp_Disk_get (s1.2 3 a1.toNatClampNeg) (2 + ((upd (s1.2 4) a1.toNatClampNeg v7) a1.toNatClampNeg)) (s1.1, ua (ua s1.2 4 (upd (s1.2 4) a1.toNatClampNeg v7)) 5 (upd (s1.2 5) a1.toNatClampNeg v10)) (fun r17 s16 => vp_in a1 9 ∧ (Q v5 (s16.1, ua s16.2 7 (upd (s16.2 7) a1.toNatClampNeg r17))))))) ∧ (¬ ((upd (s1.2 5) a1.toNatClampNeg v10) a1.toNatClampNeg) ≤ 0 → vp_in a1 9 ∧ (wp_Disk_keysPerBlock (s1.1, ua (ua s1.2 4 (upd (s1.2 4) a1.toNatClampNeg v7)) 5 (upd (s1.2 5) a1.toNatClampNeg v10)) (fun r21 s20 => ((((upd (s1.2 4) a1.toNatClampNeg v7) a1.toNatClampNeg) < r21 → vp_in a1 9 ∧ (vp_in a1 9 ∧ (wp_Disk_get (s20.2 3 a1.toNatClampNeg) (2 + (s20.2 4 a1.toNatClampNeg)) s20 (fun r26 s25 => vp_in a1 9 ∧ (Q v5 (s25.1, ua s25.2 7 (upd (s25.2 7) a1.toNatClampNeg r26))))))) ∧ (¬ ((upd (s1.2 4) a1.toNatClampNeg v7) a1.toNatClampNeg) < r21 → vp_in a1 9 ∧ (wp_Disk_get (s20.2 3 a1.toNatClampNeg) 1 s20 (fun r30 s29 => vp_in a1 9 ∧ (vp_in a1 9 ∧ (vp_in a1 9 ∧ (vp_in a1 9 ∧ (wp_Disk_get ((upd (s29.2 3) a1.toNatClampNeg r30) a1.toNatClampNeg) (2 + ((upd (s29.2 4) a1.toNatClampNeg 0) a1.toNatClampNeg)) (s29.1, ua (ua s29.2 3 (upd (s29.2 3) a1.toNatClampNeg r30)) 4 (upd (s29.2 4) a1.toNatClampNeg 0)) (fun r36 s35 => vp_in a1 9 ∧ (Q v5 (s35.1, ua s35.2 7 (upd (s35.2 7) a1.toNatClampNeg r36))))))))))))))))))))))) ∧ (r2 = 0 → Q (-1) s1)))
set_option maxHeartbeats 4000000 in
set_option maxRecDepth 100000 in
theorem w_Runs_takeFrom (X : gX) (ad : Nat → Nat) (a1 : Int32) (s : gS) (Q : Int32 → gS → Prop) (h : wp_Runs_takeFrom a1 s Q) (E : gE) (C : gC X E b_RU_takeFrom 3 R_RU) (hRm : gRm E = rm_Runs_takeFrom) (r : gR X E b_RU_takeFrom (some .int) (gBi (wC ad X) Q)) : gW X E 0 0 (wC ad X s) [(0, .ref (ad 6)), (1, .int a1)] 0 [] := by
  have h : wp_Runs_has a1 s (fun r2 s1 => ((¬ r2 = 0 → vp_in a1 9 ∧ (∀ v5 : Int32, v5 = s1.2 7 a1.toNatClampNeg → vp_in a1 9 ∧ (∀ v7 : Int32, v7 = (s1.2 4 a1.toNatClampNeg) + 1 → vp_in a1 9 ∧ (vp_in a1 9 ∧ (∀ v10 : Int32, v10 = (s1.2 5 a1.toNatClampNeg) - 1 → vp_in a1 9 ∧ (vp_in a1 9 ∧ (((((upd (s1.2 5) a1.toNatClampNeg v10) a1.toNatClampNeg) ≤ 0 → vp_in a1 9 ∧ (vp_in a1 9 ∧ (wp_Disk_get (s1.2 3 a1.toNatClampNeg) (2 + ((upd (s1.2 4) a1.toNatClampNeg v7) a1.toNatClampNeg)) (s1.1, ua (ua s1.2 4 (upd (s1.2 4) a1.toNatClampNeg v7)) 5 (upd (s1.2 5) a1.toNatClampNeg v10)) (fun r17 s16 => vp_in a1 9 ∧ (Q v5 (s16.1, ua s16.2 7 (upd (s16.2 7) a1.toNatClampNeg r17))))))) ∧ (¬ ((upd (s1.2 5) a1.toNatClampNeg v10) a1.toNatClampNeg) ≤ 0 → vp_in a1 9 ∧ (wp_Disk_keysPerBlock (s1.1, ua (ua s1.2 4 (upd (s1.2 4) a1.toNatClampNeg v7)) 5 (upd (s1.2 5) a1.toNatClampNeg v10)) (fun r21 s20 => ((((upd (s1.2 4) a1.toNatClampNeg v7) a1.toNatClampNeg) < r21 → vp_in a1 9 ∧ (vp_in a1 9 ∧ (wp_Disk_get (s20.2 3 a1.toNatClampNeg) (2 + (s20.2 4 a1.toNatClampNeg)) s20 (fun r26 s25 => vp_in a1 9 ∧ (Q v5 (s25.1, ua s25.2 7 (upd (s25.2 7) a1.toNatClampNeg r26))))))) ∧ (¬ ((upd (s1.2 4) a1.toNatClampNeg v7) a1.toNatClampNeg) < r21 → vp_in a1 9 ∧ (wp_Disk_get (s20.2 3 a1.toNatClampNeg) 1 s20 (fun r30 s29 => vp_in a1 9 ∧ (vp_in a1 9 ∧ (vp_in a1 9 ∧ (vp_in a1 9 ∧ (wp_Disk_get ((upd (s29.2 3) a1.toNatClampNeg r30) a1.toNatClampNeg) (2 + ((upd (s29.2 4) a1.toNatClampNeg 0) a1.toNatClampNeg)) (s29.1, ua (ua s29.2 3 (upd (s29.2 3) a1.toNatClampNeg r30)) 4 (upd (s29.2 4) a1.toNatClampNeg 0)) (fun r36 s35 => vp_in a1 9 ∧ (Q v5 (s35.1, ua s35.2 7 (upd (s35.2 7) a1.toNatClampNeg r36))))))))))))))))))))))) ∧ (r2 = 0 → Q (-1) s1))) := h
  refine g_aload_n C d_RU_takeFrom_0 rfl 0 rfl ?_
  refine g_iload_n C d_RU_takeFrom_1 rfl 1 rfl ?_
  refine g_callV C (rest := []) 6 (fun l => m_Runs_has X ad a1 s _ h l) rfl rfl (gt 524 (by decide +kernel) rfl) cb_RU_has ⟨rfl, rfl⟩ (by rw [hRm]; decide) ⟨Nat.zero_le _, Nat.zero_le _⟩ rfl rfl (Nat.le_of_ble_eq_true rfl) d_RU_takeFrom_2 (gki (fun r2 s1 h => ?_))
  refine g_if_ne C 10 d_RU_takeFrom_5 (by decide) (fun c3 => ?_) (fun c3 => ?_)
  · have h := h.1 c3
    refine g_aload_n C d_RU_takeFrom_10 rfl 0 rfl ?_
    refine g_get C (v := .ref (ad 11)) 6 5 iw_RU rfl rfl (by decide) (gt 181 (by decide +kernel) rfl) rfl rfl d_RU_takeFrom_11 ?_
    refine g_iload_n C d_RU_takeFrom_14 rfl 1 rfl ?_
    obtain ⟨i4, h⟩ := h
    refine g_iald C 11 0 rfl rfl i4 d_RU_takeFrom_15 ?_
    refine g_topi (fun v5 e_v5 => ?_)
    have h := h v5 e_v5
    refine g_istore_n C (lv2 := [(0, .ref (ad 6)), (1, .int a1), (2, .int v5)]) d_RU_takeFrom_16 rfl (by decide) rfl ?_
    refine g_aload_n C d_RU_takeFrom_17 rfl 0 rfl ?_
    refine g_get C (v := .ref (ad 8)) 6 2 iw_RU rfl rfl (by decide) (gt 172 (by decide +kernel) rfl) rfl rfl d_RU_takeFrom_18 ?_
    refine g_iload_n C d_RU_takeFrom_21 rfl 1 rfl ?_
    refine g_dup2 C rfl rfl d_RU_takeFrom_22 ?_
    obtain ⟨i6, h⟩ := h
    refine g_iald C 8 0 rfl rfl i6 d_RU_takeFrom_23 ?_
    refine g_iconst C 1 d_RU_takeFrom_24 (by decide) ?_
    refine g_iadd C d_RU_takeFrom_25 ?_
    refine g_topi (fun v7 e_v7 => ?_)
    have h := h v7 e_v7
    obtain ⟨i8, h⟩ := h
    refine g_iast C 8 0 (ws2 := wC ad X (s1.1, ua s1.2 4 (upd (s1.2 4) a1.toNatClampNeg v7))) rfl rfl i8 rfl d_RU_takeFrom_26 ?_
    refine g_aload_n C d_RU_takeFrom_27 rfl 0 rfl ?_
    refine g_get C (v := .ref (ad 9)) 6 3 iw_RU rfl rfl (by decide) (gt 175 (by decide +kernel) rfl) rfl rfl d_RU_takeFrom_28 ?_
    refine g_iload_n C d_RU_takeFrom_31 rfl 1 rfl ?_
    refine g_dup2 C rfl rfl d_RU_takeFrom_32 ?_
    obtain ⟨i9, h⟩ := h
    refine g_iald C 9 0 rfl rfl i9 d_RU_takeFrom_33 ?_
    refine g_iconst C 1 d_RU_takeFrom_34 (by decide) ?_
    refine g_isub C d_RU_takeFrom_35 ?_
    refine g_topi (fun v10 e_v10 => ?_)
    have h := h v10 e_v10
    obtain ⟨i11, h⟩ := h
    refine g_iast C 9 0 (ws2 := wC ad X (s1.1, ua (ua s1.2 4 (upd (s1.2 4) a1.toNatClampNeg v7)) 5 (upd (s1.2 5) a1.toNatClampNeg v10))) rfl rfl i11 rfl d_RU_takeFrom_36 ?_
    refine g_aload_n C d_RU_takeFrom_37 rfl 0 rfl ?_
    refine g_get C (v := .ref (ad 9)) 6 3 iw_RU rfl rfl (by decide) (gt 175 (by decide +kernel) rfl) rfl rfl d_RU_takeFrom_38 ?_
    refine g_iload_n C d_RU_takeFrom_41 rfl 1 rfl ?_
    obtain ⟨i12, h⟩ := h
    refine g_iald C 9 0 rfl rfl i12 d_RU_takeFrom_42 ?_
    refine g_if_le C 89 d_RU_takeFrom_43 (by decide) (fun c13 => ?_) (fun c13 => ?_)
    · have h := h.1 c13
      refine g_aload_n C d_RU_takeFrom_89 rfl 0 rfl ?_
      refine g_get C (v := .ref (ad 11)) 6 5 iw_RU rfl rfl (by decide) (gt 181 (by decide +kernel) rfl) rfl rfl d_RU_takeFrom_90 ?_
      refine g_iload_n C d_RU_takeFrom_93 rfl 1 rfl ?_
      refine g_aload_n C d_RU_takeFrom_94 rfl 0 rfl ?_
      refine g_get C (v := .ref (ad 1)) 6 0 iw_RU rfl rfl (by decide) (gt 168 (by decide +kernel) rfl) rfl rfl d_RU_takeFrom_95 ?_
      refine g_aload_n C d_RU_takeFrom_98 rfl 0 rfl ?_
      refine g_get C (v := .ref (ad 7)) 6 1 iw_RU rfl rfl (by decide) (gt 169 (by decide +kernel) rfl) rfl rfl d_RU_takeFrom_99 ?_
      refine g_iload_n C d_RU_takeFrom_102 rfl 1 rfl ?_
      obtain ⟨i14, h⟩ := h
      refine g_iald C 7 0 rfl rfl i14 d_RU_takeFrom_103 ?_
      refine g_iconst C 2 d_RU_takeFrom_104 (by decide) ?_
      refine g_aload_n C d_RU_takeFrom_105 rfl 0 rfl ?_
      refine g_get C (v := .ref (ad 8)) 6 2 iw_RU rfl rfl (by decide) (gt 172 (by decide +kernel) rfl) rfl rfl d_RU_takeFrom_106 ?_
      refine g_iload_n C d_RU_takeFrom_109 rfl 1 rfl ?_
      obtain ⟨i15, h⟩ := h
      refine g_iald C 8 0 rfl rfl i15 d_RU_takeFrom_110 ?_
      refine g_iadd C d_RU_takeFrom_111 ?_
      refine g_callVN (host := "SpillQueue") C (rest := [.int a1, .ref (ad 11)]) 1 (fun l => m_Disk_get X ad (s1.2 3 a1.toNatClampNeg) (2 + ((upd (s1.2 4) a1.toNatClampNeg v7) a1.toNatClampNeg)) (s1.1, ua (ua s1.2 4 (upd (s1.2 4) a1.toNatClampNeg v7)) 5 (upd (s1.2 5) a1.toNatClampNeg v10)) _ h l) rfl rfl (gn 409 (by decide +kernel) rfl) cb_DK_get ⟨rfl, rfl⟩ (by rw [hRm]; decide) ⟨Nat.zero_le _, Nat.zero_le _⟩ rfl rfl (Nat.le_of_ble_eq_true rfl) d_RU_takeFrom_112 (gki (fun r17 s16 h => ?_))
      obtain ⟨i18, h⟩ := h
      refine g_iast C 11 0 (ws2 := wC ad X (s16.1, ua s16.2 7 (upd (s16.2 7) a1.toNatClampNeg r17))) rfl rfl i18 rfl d_RU_takeFrom_115 ?_
      refine g_iload_n C d_RU_takeFrom_116 rfl 2 rfl ?_
      exact g_iret r rfl d_RU_takeFrom_117 (gBi_mk h)
    · have h := h.2 c13
      refine g_aload_n C d_RU_takeFrom_46 rfl 0 rfl ?_
      refine g_get C (v := .ref (ad 8)) 6 2 iw_RU rfl rfl (by decide) (gt 172 (by decide +kernel) rfl) rfl rfl d_RU_takeFrom_47 ?_
      refine g_iload_n C d_RU_takeFrom_50 rfl 1 rfl ?_
      obtain ⟨i19, h⟩ := h
      refine g_iald C 8 0 rfl rfl i19 d_RU_takeFrom_51 ?_
      refine g_aload_n C d_RU_takeFrom_52 rfl 0 rfl ?_
      refine g_get C (v := .ref (ad 1)) 6 0 iw_RU rfl rfl (by decide) (gt 168 (by decide +kernel) rfl) rfl rfl d_RU_takeFrom_53 ?_
      refine g_callVN (host := "SpillQueue") C (rest := [.int ((upd (s1.2 4) a1.toNatClampNeg v7) a1.toNatClampNeg)]) 1 (fun l => m_Disk_keysPerBlock X ad  (s1.1, ua (ua s1.2 4 (upd (s1.2 4) a1.toNatClampNeg v7)) 5 (upd (s1.2 5) a1.toNatClampNeg v10)) _ h l) rfl rfl (gn 528 (by decide +kernel) rfl) cb_DK_keysPerBlock ⟨rfl, rfl⟩ (by rw [hRm]; decide) ⟨Nat.zero_le _, Nat.zero_le _⟩ rfl rfl (Nat.le_of_ble_eq_true rfl) d_RU_takeFrom_56 (gki (fun r21 s20 h => ?_))
      refine g_icmp_lt C 89 d_RU_takeFrom_59 (by decide) (fun c22 => ?_) (fun c22 => ?_)
      · have h := h.1 c22
        refine g_aload_n C d_RU_takeFrom_89 rfl 0 rfl ?_
        refine g_get C (v := .ref (ad 11)) 6 5 iw_RU rfl rfl (by decide) (gt 181 (by decide +kernel) rfl) rfl rfl d_RU_takeFrom_90 ?_
        refine g_iload_n C d_RU_takeFrom_93 rfl 1 rfl ?_
        refine g_aload_n C d_RU_takeFrom_94 rfl 0 rfl ?_
        refine g_get C (v := .ref (ad 1)) 6 0 iw_RU rfl rfl (by decide) (gt 168 (by decide +kernel) rfl) rfl rfl d_RU_takeFrom_95 ?_
        refine g_aload_n C d_RU_takeFrom_98 rfl 0 rfl ?_
        refine g_get C (v := .ref (ad 7)) 6 1 iw_RU rfl rfl (by decide) (gt 169 (by decide +kernel) rfl) rfl rfl d_RU_takeFrom_99 ?_
        refine g_iload_n C d_RU_takeFrom_102 rfl 1 rfl ?_
        obtain ⟨i23, h⟩ := h
        refine g_iald C 7 0 rfl rfl i23 d_RU_takeFrom_103 ?_
        refine g_iconst C 2 d_RU_takeFrom_104 (by decide) ?_
        refine g_aload_n C d_RU_takeFrom_105 rfl 0 rfl ?_
        refine g_get C (v := .ref (ad 8)) 6 2 iw_RU rfl rfl (by decide) (gt 172 (by decide +kernel) rfl) rfl rfl d_RU_takeFrom_106 ?_
        refine g_iload_n C d_RU_takeFrom_109 rfl 1 rfl ?_
        obtain ⟨i24, h⟩ := h
        refine g_iald C 8 0 rfl rfl i24 d_RU_takeFrom_110 ?_
        refine g_iadd C d_RU_takeFrom_111 ?_
        refine g_callVN (host := "SpillQueue") C (rest := [.int a1, .ref (ad 11)]) 1 (fun l => m_Disk_get X ad (s20.2 3 a1.toNatClampNeg) (2 + (s20.2 4 a1.toNatClampNeg)) s20 _ h l) rfl rfl (gn 409 (by decide +kernel) rfl) cb_DK_get ⟨rfl, rfl⟩ (by rw [hRm]; decide) ⟨Nat.zero_le _, Nat.zero_le _⟩ rfl rfl (Nat.le_of_ble_eq_true rfl) d_RU_takeFrom_112 (gki (fun r26 s25 h => ?_))
        obtain ⟨i27, h⟩ := h
        refine g_iast C 11 0 (ws2 := wC ad X (s25.1, ua s25.2 7 (upd (s25.2 7) a1.toNatClampNeg r26))) rfl rfl i27 rfl d_RU_takeFrom_115 ?_
        refine g_iload_n C d_RU_takeFrom_116 rfl 2 rfl ?_
        exact g_iret r rfl d_RU_takeFrom_117 (gBi_mk h)
      · have h := h.2 c22
        refine g_aload_n C d_RU_takeFrom_62 rfl 0 rfl ?_
        refine g_get C (v := .ref (ad 7)) 6 1 iw_RU rfl rfl (by decide) (gt 169 (by decide +kernel) rfl) rfl rfl d_RU_takeFrom_63 ?_
        refine g_iload_n C d_RU_takeFrom_66 rfl 1 rfl ?_
        refine g_aload_n C d_RU_takeFrom_67 rfl 0 rfl ?_
        refine g_get C (v := .ref (ad 1)) 6 0 iw_RU rfl rfl (by decide) (gt 168 (by decide +kernel) rfl) rfl rfl d_RU_takeFrom_68 ?_
        refine g_aload_n C d_RU_takeFrom_71 rfl 0 rfl ?_
        refine g_get C (v := .ref (ad 7)) 6 1 iw_RU rfl rfl (by decide) (gt 169 (by decide +kernel) rfl) rfl rfl d_RU_takeFrom_72 ?_
        refine g_iload_n C d_RU_takeFrom_75 rfl 1 rfl ?_
        obtain ⟨i28, h⟩ := h
        refine g_iald C 7 0 rfl rfl i28 d_RU_takeFrom_76 ?_
        refine g_iconst C 1 d_RU_takeFrom_77 (by decide) ?_
        refine g_callVN (host := "SpillQueue") C (rest := [.int a1, .ref (ad 7)]) 1 (fun l => m_Disk_get X ad (s20.2 3 a1.toNatClampNeg) 1 s20 _ h l) rfl rfl (gn 409 (by decide +kernel) rfl) cb_DK_get ⟨rfl, rfl⟩ (by rw [hRm]; decide) ⟨Nat.zero_le _, Nat.zero_le _⟩ rfl rfl (Nat.le_of_ble_eq_true rfl) d_RU_takeFrom_78 (gki (fun r30 s29 h => ?_))
        obtain ⟨i31, h⟩ := h
        refine g_iast C 7 0 (ws2 := wC ad X (s29.1, ua s29.2 3 (upd (s29.2 3) a1.toNatClampNeg r30))) rfl rfl i31 rfl d_RU_takeFrom_81 ?_
        refine g_aload_n C d_RU_takeFrom_82 rfl 0 rfl ?_
        refine g_get C (v := .ref (ad 8)) 6 2 iw_RU rfl rfl (by decide) (gt 172 (by decide +kernel) rfl) rfl rfl d_RU_takeFrom_83 ?_
        refine g_iload_n C d_RU_takeFrom_86 rfl 1 rfl ?_
        refine g_iconst C 0 d_RU_takeFrom_87 (by decide) ?_
        obtain ⟨i32, h⟩ := h
        refine g_iast C 8 0 (ws2 := wC ad X (s29.1, ua (ua s29.2 3 (upd (s29.2 3) a1.toNatClampNeg r30)) 4 (upd (s29.2 4) a1.toNatClampNeg 0))) rfl rfl i32 rfl d_RU_takeFrom_88 ?_
        refine g_aload_n C d_RU_takeFrom_89 rfl 0 rfl ?_
        refine g_get C (v := .ref (ad 11)) 6 5 iw_RU rfl rfl (by decide) (gt 181 (by decide +kernel) rfl) rfl rfl d_RU_takeFrom_90 ?_
        refine g_iload_n C d_RU_takeFrom_93 rfl 1 rfl ?_
        refine g_aload_n C d_RU_takeFrom_94 rfl 0 rfl ?_
        refine g_get C (v := .ref (ad 1)) 6 0 iw_RU rfl rfl (by decide) (gt 168 (by decide +kernel) rfl) rfl rfl d_RU_takeFrom_95 ?_
        refine g_aload_n C d_RU_takeFrom_98 rfl 0 rfl ?_
        refine g_get C (v := .ref (ad 7)) 6 1 iw_RU rfl rfl (by decide) (gt 169 (by decide +kernel) rfl) rfl rfl d_RU_takeFrom_99 ?_
        refine g_iload_n C d_RU_takeFrom_102 rfl 1 rfl ?_
        obtain ⟨i33, h⟩ := h
        refine g_iald C 7 0 rfl rfl i33 d_RU_takeFrom_103 ?_
        refine g_iconst C 2 d_RU_takeFrom_104 (by decide) ?_
        refine g_aload_n C d_RU_takeFrom_105 rfl 0 rfl ?_
        refine g_get C (v := .ref (ad 8)) 6 2 iw_RU rfl rfl (by decide) (gt 172 (by decide +kernel) rfl) rfl rfl d_RU_takeFrom_106 ?_
        refine g_iload_n C d_RU_takeFrom_109 rfl 1 rfl ?_
        obtain ⟨i34, h⟩ := h
        refine g_iald C 8 0 rfl rfl i34 d_RU_takeFrom_110 ?_
        refine g_iadd C d_RU_takeFrom_111 ?_
        refine g_callVN (host := "SpillQueue") C (rest := [.int a1, .ref (ad 11)]) 1 (fun l => m_Disk_get X ad ((upd (s29.2 3) a1.toNatClampNeg r30) a1.toNatClampNeg) (2 + ((upd (s29.2 4) a1.toNatClampNeg 0) a1.toNatClampNeg)) (s29.1, ua (ua s29.2 3 (upd (s29.2 3) a1.toNatClampNeg r30)) 4 (upd (s29.2 4) a1.toNatClampNeg 0)) _ h l) rfl rfl (gn 409 (by decide +kernel) rfl) cb_DK_get ⟨rfl, rfl⟩ (by rw [hRm]; decide) ⟨Nat.zero_le _, Nat.zero_le _⟩ rfl rfl (Nat.le_of_ble_eq_true rfl) d_RU_takeFrom_112 (gki (fun r36 s35 h => ?_))
        obtain ⟨i37, h⟩ := h
        refine g_iast C 11 0 (ws2 := wC ad X (s35.1, ua s35.2 7 (upd (s35.2 7) a1.toNatClampNeg r36))) rfl rfl i37 rfl d_RU_takeFrom_115 ?_
        refine g_iload_n C d_RU_takeFrom_116 rfl 2 rfl ?_
        exact g_iret r rfl d_RU_takeFrom_117 (gBi_mk h)
  · have h := h.2 c3
    refine g_iconst C (-1) d_RU_takeFrom_8 (by decide) ?_
    exact g_iret r rfl d_RU_takeFrom_9 (gBi_mk h)
theorem m_Runs_takeFrom (X : gX) (ad : Nat → Nat) (a1 : Int32) (s : gS) (Q : Int32 → gS → Prop) (h : wp_Runs_takeFrom a1 s Q) (l : Launch) : gM l X y_RU_takeFrom b_RU_takeFrom 3 (some .int) rm_Runs_takeFrom [.ref (ad 6), .int a1] (wC ad X s) (gBi (wC ad X) Q) :=
  gM_of (by decide +kernel) rfl (Nat.le_of_ble_eq_true rfl) rfl (fun E C hRm r => w_Runs_takeFrom X ad a1 s Q h E C hRm r)
def rm_Runs_takeLeast : Room := { frames := 2, cells := 0, slots := 0, locals := 44 }
def wp_Runs_takeLeast (s : gS) (Q : Int32 → gS → Prop) : Prop := wp_Runs_leastAt 1 s (fun r2 s1 => wp_Runs_takeFrom r2 s1 (fun r4 s3 => Q r4 s3))
set_option maxHeartbeats 4000000 in
set_option maxRecDepth 100000 in
theorem w_Runs_takeLeast (X : gX) (ad : Nat → Nat) (s : gS) (Q : Int32 → gS → Prop) (h : wp_Runs_takeLeast  s Q) (E : gE) (C : gC X E b_RU_takeLeast 1 R_RU) (hRm : gRm E = rm_Runs_takeLeast) (r : gR X E b_RU_takeLeast (some .int) (gBi (wC ad X) Q)) : gW X E 0 0 (wC ad X s) [(0, .ref (ad 6))] 0 [] := by
  have h : wp_Runs_leastAt 1 s (fun r2 s1 => wp_Runs_takeFrom r2 s1 (fun r4 s3 => Q r4 s3)) := h
  refine g_aload_n C d_RU_takeLeast_0 rfl 0 rfl ?_
  refine g_aload_n C d_RU_takeLeast_1 rfl 0 rfl ?_
  refine g_iconst C 1 d_RU_takeLeast_2 (by decide) ?_
  refine g_callV C (rest := [.ref (ad 6)]) 6 (fun l => m_Runs_leastAt X ad 1 s _ h l) rfl rfl (gt 516 (by decide +kernel) rfl) cb_RU_leastAt ⟨rfl, rfl⟩ (by rw [hRm]; decide) ⟨Nat.zero_le _, Nat.zero_le _⟩ rfl rfl (Nat.le_of_ble_eq_true rfl) d_RU_takeLeast_3 (gki (fun r2 s1 h => ?_))
  refine g_callV C (rest := []) 6 (fun l => m_Runs_takeFrom X ad r2 s1 _ h l) rfl rfl (gt 520 (by decide +kernel) rfl) cb_RU_takeFrom ⟨rfl, rfl⟩ (by rw [hRm]; decide) ⟨Nat.zero_le _, Nat.zero_le _⟩ rfl rfl (Nat.le_of_ble_eq_true rfl) d_RU_takeLeast_6 (gki (fun r4 s3 h => ?_))
  exact g_iret r rfl d_RU_takeLeast_9 (gBi_mk h)
theorem m_Runs_takeLeast (X : gX) (ad : Nat → Nat) (s : gS) (Q : Int32 → gS → Prop) (h : wp_Runs_takeLeast  s Q) (l : Launch) : gM l X y_RU_takeLeast b_RU_takeLeast 1 (some .int) rm_Runs_takeLeast [.ref (ad 6)] (wC ad X s) (gBi (wC ad X) Q) :=
  gM_of (by decide +kernel) rfl (Nat.le_of_ble_eq_true rfl) rfl (fun E C hRm r => w_Runs_takeLeast X ad  s Q h E C hRm r)
def rm_SpillQueue_makeRun_6 : Room := { frames := 3, cells := 0, slots := 0, locals := 68 }
def wl_SpillQueue_makeRun_6_106 (Q : Int32 → gS → Prop) (K : Int32 → gS → Prop) (x2 : Int32) (x3 : Int32) (x4 : Int32) (x5 : Int32) (x6 : Int32) (x7 : Int32) : Nat → Int32 → gS → Prop
  | 0, _, _ => False
  | n + 1, x8, s => ((x7 ≤ x8 → K x8 s) ∧ (¬ x7 ≤ x8 → wp_Runs_takeLeast s (fun r20 s19 => wp_Disk_setRow (2 + x8) r20 s19 (fun s21 => ∀ v23 : Int32, v23 = x8 + 1 → wl_SpillQueue_makeRun_6_106 Q K x2 x3 x4 x5 x6 x7 n v23 s21))))
set_option maxHeartbeats 4000000 in
set_option maxRecDepth 100000 in
theorem w_SpillQueue_makeRun_6_106 (X : gX) (ad : Nat → Nat) (Q : Int32 → gS → Prop) (K : Int32 → gS → Prop) (x2 : Int32) (x3 : Int32) (x4 : Int32) (x5 : Int32) (x6 : Int32) (x7 : Int32) (E : gE) (C : gC X E b_SQ_makeRun 9 R_SQ) (hRm : gRm E = rm_SpillQueue_makeRun_6) (r : gR X E b_SQ_makeRun (some .int) (gBi (wC ad X) Q)) (hK : ∀ (x8 : Int32) (s : gS), K x8 s → gW X E 0 0 (wC ad X s) [(0, .ref (ad 0)), (1, .ref (ad 6)), (2, .int x2), (3, .int x3), (4, .int x4), (5, .int x5), (6, .int x6), (7, .int x7), (8, .int x8)] 134 []) : ∀ (n : Nat) (x8 : Int32) (s : gS), wl_SpillQueue_makeRun_6_106 Q K x2 x3 x4 x5 x6 x7 n x8 s → gW X E 0 0 (wC ad X s) [(0, .ref (ad 0)), (1, .ref (ad 6)), (2, .int x2), (3, .int x3), (4, .int x4), (5, .int x5), (6, .int x6), (7, .int x7), (8, .int x8)] 106 [] := by
  intro n
  induction n with
  | zero => intro x8 s h; exact False.elim h
  | succ n ih =>
    intro x8 s h
    have h : ((x7 ≤ x8 → K x8 s) ∧ (¬ x7 ≤ x8 → wp_Runs_takeLeast s (fun r20 s19 => wp_Disk_setRow (2 + x8) r20 s19 (fun s21 => ∀ v23 : Int32, v23 = x8 + 1 → wl_SpillQueue_makeRun_6_106 Q K x2 x3 x4 x5 x6 x7 n v23 s21)))) := h
    refine g_iload C d_SQ_makeRun_106 8 rfl ?_
    refine g_iload C d_SQ_makeRun_108 7 rfl ?_
    refine g_icmp_ge C 134 d_SQ_makeRun_110 (by decide) (fun c18 => ?_) (fun c18 => ?_)
    · have h := h.1 c18
      exact hK x8 s h
    · have h := h.2 c18
      refine g_aload_n C d_SQ_makeRun_113 rfl 0 rfl ?_
      refine g_get C (v := .ref (ad 1)) 0 0 iw_SQ rfl rfl (by decide) (gt 229 (by decide +kernel) rfl) rfl rfl d_SQ_makeRun_114 ?_
      refine g_iconst C 2 d_SQ_makeRun_117 (by decide) ?_
      refine g_iload C d_SQ_makeRun_118 8 rfl ?_
      refine g_iadd C d_SQ_makeRun_120 ?_
      refine g_aload_n C d_SQ_makeRun_121 rfl 1 rfl ?_
      refine g_callU C (x := ⟨"SpillQueue$Keys", "takeLeast", "()I"⟩) (rest := [.int (2 + x8), .ref (ad 1)]) (owner := "SpillQueue$Keys") 6 (fun l => m_Runs_takeLeast X ad  s _ h l) rfl rfl (gt 503 (by decide +kernel) rfl) (gt 505 (by decide +kernel) rfl) (gn 504 (by decide +kernel) rfl) (gt 513 (by decide +kernel) rfl) (gt 514 (by decide +kernel) rfl) (gt 91 (by decide +kernel) rfl) (gt 515 rfl rfl) (by decide +kernel) ⟨rfl, rfl⟩ (by rw [hRm]; decide) ⟨Nat.zero_le _, Nat.zero_le _⟩ rfl rfl (Nat.le_of_ble_eq_true rfl) d_SQ_makeRun_122 (gki (fun r20 s19 h => ?_))
      refine g_callVN (host := "SpillQueue") C (rest := []) 1 (fun l => m_Disk_setRow X ad (2 + x8) r20 s19 _ h l) rfl rfl (gn 499 (by decide +kernel) rfl) cb_DK_setRow ⟨rfl, rfl⟩ (by rw [hRm]; decide) ⟨Nat.zero_le _, Nat.zero_le _⟩ rfl rfl (Nat.le_of_ble_eq_true rfl) d_SQ_makeRun_125 (gkv (fun s21 h => ?_))
      obtain ⟨v23, e_v23⟩ : ∃ y : Int32, y = x8 + 1 := ⟨_, rfl⟩
      have h := h v23 e_v23
      refine g_iinc C (v := v23) (lv2 := [(0, .ref (ad 0)), (1, .ref (ad 6)), (2, .int x2), (3, .int x3), (4, .int x4), (5, .int x5), (6, .int x6), (7, .int x7), (8, .int v23)]) d_SQ_makeRun_128 8 rfl (by rw [e_v23]; rfl) (by decide) rfl ?_
      refine g_goto C 106 d_SQ_makeRun_131 (by decide) ?_
      exact ih v23 s21 h
def wl_SpillQueue_makeRun_6_45 (Q : Int32 → gS → Prop) (K : Int32 → gS → Prop) (x2 : Int32) (x3 : Int32) (x4 : Int32) (x5 : Int32) : Nat → Int32 → gS → Prop
  | 0, _, _ => False
  | n + 1, x6, s => ((x4 ≤ x6 → K x6 s) ∧ (¬ x4 ≤ x6 → wp_Disk_clearRow s (fun s12 => ((x4 ≤ (x6 + 1) → wp_Disk_setRow 1 0 s12 (fun s15 => ∀ v17 : Int32, v17 = (if (x3 - (x6 * x5)) < x5 then (x3 - (x6 * x5)) else x5) → ∃ n24 : Nat, wl_SpillQueue_makeRun_6_106 Q (fun v26 s25 => vp_in x6 200 ∧ (wp_Disk_writeRow (s25.2 12 x6.toNatClampNeg) s25 (fun r29 s28 => ((¬ r29 = 0 → ∀ v31 : Int32, v31 = x6 + 1 → wl_SpillQueue_makeRun_6_45 Q K x2 x3 x4 x5 n v31 s28) ∧ (r29 = 0 → wp_SpillQueue_powerOff s28 (fun s32 => Q (-9) s32)))))) x2 x3 x4 x5 x6 v17 n24 0 s15)) ∧ (¬ x4 ≤ (x6 + 1) → vp_in (x6 + 1) 200 ∧ (wp_Disk_setRow 1 (s12.2 12 (x6 + 1).toNatClampNeg) s12 (fun s35 => ∀ v37 : Int32, v37 = (if (x3 - (x6 * x5)) < x5 then (x3 - (x6 * x5)) else x5) → ∃ n38 : Nat, wl_SpillQueue_makeRun_6_106 Q (fun v40 s39 => vp_in x6 200 ∧ (wp_Disk_writeRow (s39.2 12 x6.toNatClampNeg) s39 (fun r43 s42 => ((¬ r43 = 0 → ∀ v45 : Int32, v45 = x6 + 1 → wl_SpillQueue_makeRun_6_45 Q K x2 x3 x4 x5 n v45 s42) ∧ (r43 = 0 → wp_SpillQueue_powerOff s42 (fun s46 => Q (-9) s46)))))) x2 x3 x4 x5 x6 v37 n38 0 s35)))))))
set_option maxHeartbeats 4000000 in
set_option maxRecDepth 100000 in
theorem w_SpillQueue_makeRun_6_45 (X : gX) (ad : Nat → Nat) (Q : Int32 → gS → Prop) (K : Int32 → gS → Prop) (x2 : Int32) (x3 : Int32) (x4 : Int32) (x5 : Int32) (E : gE) (C : gC X E b_SQ_makeRun 9 R_SQ) (hRm : gRm E = rm_SpillQueue_makeRun_6) (r : gR X E b_SQ_makeRun (some .int) (gBi (wC ad X) Q)) (hK : ∀ (x6 : Int32) (s : gS), K x6 s → gW X E 0 0 (wC ad X s) [(0, .ref (ad 0)), (1, .ref (ad 6)), (2, .int x2), (3, .int x3), (4, .int x4), (5, .int x5), (6, .int x6)] 164 []) : ∀ (n : Nat) (x6 : Int32) (s : gS), wl_SpillQueue_makeRun_6_45 Q K x2 x3 x4 x5 n x6 s → gW X E 0 0 (wC ad X s) [(0, .ref (ad 0)), (1, .ref (ad 6)), (2, .int x2), (3, .int x3), (4, .int x4), (5, .int x5), (6, .int x6)] 45 [] := by
  intro n
  induction n with
  | zero => intro x6 s h; exact False.elim h
  | succ n ih =>
    intro x6 s h
    have h : ((x4 ≤ x6 → K x6 s) ∧ (¬ x4 ≤ x6 → wp_Disk_clearRow s (fun s12 => ((x4 ≤ (x6 + 1) → wp_Disk_setRow 1 0 s12 (fun s15 => ∀ v17 : Int32, v17 = (if (x3 - (x6 * x5)) < x5 then (x3 - (x6 * x5)) else x5) → ∃ n24 : Nat, wl_SpillQueue_makeRun_6_106 Q (fun v26 s25 => vp_in x6 200 ∧ (wp_Disk_writeRow (s25.2 12 x6.toNatClampNeg) s25 (fun r29 s28 => ((¬ r29 = 0 → ∀ v31 : Int32, v31 = x6 + 1 → wl_SpillQueue_makeRun_6_45 Q K x2 x3 x4 x5 n v31 s28) ∧ (r29 = 0 → wp_SpillQueue_powerOff s28 (fun s32 => Q (-9) s32)))))) x2 x3 x4 x5 x6 v17 n24 0 s15)) ∧ (¬ x4 ≤ (x6 + 1) → vp_in (x6 + 1) 200 ∧ (wp_Disk_setRow 1 (s12.2 12 (x6 + 1).toNatClampNeg) s12 (fun s35 => ∀ v37 : Int32, v37 = (if (x3 - (x6 * x5)) < x5 then (x3 - (x6 * x5)) else x5) → ∃ n38 : Nat, wl_SpillQueue_makeRun_6_106 Q (fun v40 s39 => vp_in x6 200 ∧ (wp_Disk_writeRow (s39.2 12 x6.toNatClampNeg) s39 (fun r43 s42 => ((¬ r43 = 0 → ∀ v45 : Int32, v45 = x6 + 1 → wl_SpillQueue_makeRun_6_45 Q K x2 x3 x4 x5 n v45 s42) ∧ (r43 = 0 → wp_SpillQueue_powerOff s42 (fun s46 => Q (-9) s46)))))) x2 x3 x4 x5 x6 v37 n38 0 s35))))))) := h
    refine g_iload C d_SQ_makeRun_45 6 rfl ?_
    refine g_iload C d_SQ_makeRun_47 4 rfl ?_
    refine g_icmp_ge C 164 d_SQ_makeRun_49 (by decide) (fun c11 => ?_) (fun c11 => ?_)
    · have h := h.1 c11
      exact hK x6 s h
    · have h := h.2 c11
      refine g_aload_n C d_SQ_makeRun_52 rfl 0 rfl ?_
      refine g_get C (v := .ref (ad 1)) 0 0 iw_SQ rfl rfl (by decide) (gt 229 (by decide +kernel) rfl) rfl rfl d_SQ_makeRun_53 ?_
      refine g_callVN (host := "SpillQueue") C (rest := []) 1 (fun l => m_Disk_clearRow X ad  s _ h l) rfl rfl (gn 498 (by decide +kernel) rfl) cb_DK_clearRow ⟨rfl, rfl⟩ (by rw [hRm]; decide) ⟨Nat.zero_le _, Nat.zero_le _⟩ rfl rfl (Nat.le_of_ble_eq_true rfl) d_SQ_makeRun_56 (gkv (fun s12 h => ?_))
      refine g_aload_n C d_SQ_makeRun_59 rfl 0 rfl ?_
      refine g_get C (v := .ref (ad 1)) 0 0 iw_SQ rfl rfl (by decide) (gt 229 (by decide +kernel) rfl) rfl rfl d_SQ_makeRun_60 ?_
      refine g_iconst C 1 d_SQ_makeRun_63 (by decide) ?_
      refine g_iload C d_SQ_makeRun_64 6 rfl ?_
      refine g_iconst C 1 d_SQ_makeRun_66 (by decide) ?_
      refine g_iadd C d_SQ_makeRun_67 ?_
      refine g_iload C d_SQ_makeRun_68 4 rfl ?_
      refine g_icmp_ge C 85 d_SQ_makeRun_70 (by decide) (fun c14 => ?_) (fun c14 => ?_)
      · have h := h.1 c14
        refine g_iconst C 0 d_SQ_makeRun_85 (by decide) ?_
        refine g_callVN (host := "SpillQueue") C (rest := []) 1 (fun l => m_Disk_setRow X ad 1 0 s12 _ h l) rfl rfl (gn 499 (by decide +kernel) rfl) cb_DK_setRow ⟨rfl, rfl⟩ (by rw [hRm]; decide) ⟨Nat.zero_le _, Nat.zero_le _⟩ rfl rfl (Nat.le_of_ble_eq_true rfl) d_SQ_makeRun_86 (gkv (fun s15 h => ?_))
        refine g_iload C d_SQ_makeRun_89 5 rfl ?_
        refine g_iload_n C d_SQ_makeRun_91 rfl 3 rfl ?_
        refine g_iload C d_SQ_makeRun_92 6 rfl ?_
        refine g_iload C d_SQ_makeRun_94 5 rfl ?_
        refine g_imul C d_SQ_makeRun_96 ?_
        refine g_isub C d_SQ_makeRun_97 ?_
        refine g_mmin C (gt 500 (by decide +kernel) rfl) (gt 501 (by decide +kernel) rfl) (gt 102 (by decide +kernel) rfl) (gt 502 rfl rfl) (by rw [hRm]; decide) ⟨Nat.zero_le _, Nat.zero_le _⟩ d_SQ_makeRun_98 ?_
        refine g_topi (fun v17 e_v17 => ?_)
        have h := h v17 e_v17
        refine g_istore C (lv2 := [(0, .ref (ad 0)), (1, .ref (ad 6)), (2, .int x2), (3, .int x3), (4, .int x4), (5, .int x5), (6, .int x6), (7, .int v17)]) d_SQ_makeRun_101 (by decide) rfl ?_
        refine g_iconst C 0 d_SQ_makeRun_103 (by decide) ?_
        refine g_istore C (lv2 := [(0, .ref (ad 0)), (1, .ref (ad 6)), (2, .int x2), (3, .int x3), (4, .int x4), (5, .int x5), (6, .int x6), (7, .int v17), (8, .int 0)]) d_SQ_makeRun_104 (by decide) rfl ?_
        obtain ⟨n24, h⟩ := h
        refine w_SpillQueue_makeRun_6_106 X ad Q (_) x2 x3 x4 x5 x6 v17 E C hRm r ?_ n24 0 s15 h
        intro v26 s25 h
        refine g_aload_n C d_SQ_makeRun_134 rfl 0 rfl ?_
        refine g_get C (v := .ref (ad 1)) 0 0 iw_SQ rfl rfl (by decide) (gt 229 (by decide +kernel) rfl) rfl rfl d_SQ_makeRun_135 ?_
        refine g_aload_n C d_SQ_makeRun_138 rfl 0 rfl ?_
        refine g_get C (v := .ref (ad 20)) 0 6 iw_SQ rfl rfl (by decide) (gt 235 (by decide +kernel) rfl) rfl rfl d_SQ_makeRun_139 ?_
        refine g_iload C d_SQ_makeRun_142 6 rfl ?_
        obtain ⟨i27, h⟩ := h
        refine g_iald C 20 0 rfl rfl i27 d_SQ_makeRun_144 ?_
        refine g_callVN (host := "SpillQueue") C (rest := []) 1 (fun l => m_Disk_writeRow X ad (s25.2 12 x6.toNatClampNeg) s25 _ h l) rfl rfl (gn 529 (by decide +kernel) rfl) cb_DK_writeRow ⟨rfl, rfl⟩ (by rw [hRm]; decide) ⟨Nat.zero_le _, Nat.zero_le _⟩ rfl rfl (Nat.le_of_ble_eq_true rfl) d_SQ_makeRun_145 (gki (fun r29 s28 h => ?_))
        refine g_if_ne C 158 d_SQ_makeRun_148 (by decide) (fun c30 => ?_) (fun c30 => ?_)
        · have h := h.1 c30
          obtain ⟨v31, e_v31⟩ : ∃ y : Int32, y = x6 + 1 := ⟨_, rfl⟩
          have h := h v31 e_v31
          refine g_iinc C (v := v31) (lv2 := [(0, .ref (ad 0)), (1, .ref (ad 6)), (2, .int x2), (3, .int x3), (4, .int x4), (5, .int x5), (6, .int v31), (7, .int v17), (8, .int v26)]) d_SQ_makeRun_158 6 rfl (by rw [e_v31]; rfl) (by decide) rfl ?_
          refine g_goto C 45 d_SQ_makeRun_161 (by decide) ?_
          refine g_lv C [0, 1, 2, 3, 4, 5, 6] rfl ?_
          exact ih v31 s28 h
        · have h := h.2 c30
          refine g_aload_n C d_SQ_makeRun_151 rfl 0 rfl ?_
          refine g_callV C (rest := []) 0 (fun l => m_SpillQueue_powerOff X ad  s28 _ h l) rfl rfl (gt 351 (by decide +kernel) rfl) cb_SQ_powerOff ⟨rfl, rfl⟩ (by rw [hRm]; decide) ⟨Nat.zero_le _, Nat.zero_le _⟩ rfl rfl (Nat.le_of_ble_eq_true rfl) d_SQ_makeRun_152 (gkv (fun s32 h => ?_))
          refine g_bipush C (-9) d_SQ_makeRun_155 (by decide) ?_
          exact g_iret r rfl d_SQ_makeRun_157 (gBi_mk h)
      · have h := h.2 c14
        refine g_aload_n C d_SQ_makeRun_73 rfl 0 rfl ?_
        refine g_get C (v := .ref (ad 20)) 0 6 iw_SQ rfl rfl (by decide) (gt 235 (by decide +kernel) rfl) rfl rfl d_SQ_makeRun_74 ?_
        refine g_iload C d_SQ_makeRun_77 6 rfl ?_
        refine g_iconst C 1 d_SQ_makeRun_79 (by decide) ?_
        refine g_iadd C d_SQ_makeRun_80 ?_
        obtain ⟨i34, h⟩ := h
        refine g_iald C 20 0 rfl rfl i34 d_SQ_makeRun_81 ?_
        refine g_goto C 86 d_SQ_makeRun_82 (by decide) ?_
        refine g_callVN (host := "SpillQueue") C (rest := []) 1 (fun l => m_Disk_setRow X ad 1 (s12.2 12 (x6 + 1).toNatClampNeg) s12 _ h l) rfl rfl (gn 499 (by decide +kernel) rfl) cb_DK_setRow ⟨rfl, rfl⟩ (by rw [hRm]; decide) ⟨Nat.zero_le _, Nat.zero_le _⟩ rfl rfl (Nat.le_of_ble_eq_true rfl) d_SQ_makeRun_86 (gkv (fun s35 h => ?_))
        refine g_iload C d_SQ_makeRun_89 5 rfl ?_
        refine g_iload_n C d_SQ_makeRun_91 rfl 3 rfl ?_
        refine g_iload C d_SQ_makeRun_92 6 rfl ?_
        refine g_iload C d_SQ_makeRun_94 5 rfl ?_
        refine g_imul C d_SQ_makeRun_96 ?_
        refine g_isub C d_SQ_makeRun_97 ?_
        refine g_mmin C (gt 500 (by decide +kernel) rfl) (gt 501 (by decide +kernel) rfl) (gt 102 (by decide +kernel) rfl) (gt 502 rfl rfl) (by rw [hRm]; decide) ⟨Nat.zero_le _, Nat.zero_le _⟩ d_SQ_makeRun_98 ?_
        refine g_topi (fun v37 e_v37 => ?_)
        have h := h v37 e_v37
        refine g_istore C (lv2 := [(0, .ref (ad 0)), (1, .ref (ad 6)), (2, .int x2), (3, .int x3), (4, .int x4), (5, .int x5), (6, .int x6), (7, .int v37)]) d_SQ_makeRun_101 (by decide) rfl ?_
        refine g_iconst C 0 d_SQ_makeRun_103 (by decide) ?_
        refine g_istore C (lv2 := [(0, .ref (ad 0)), (1, .ref (ad 6)), (2, .int x2), (3, .int x3), (4, .int x4), (5, .int x5), (6, .int x6), (7, .int v37), (8, .int 0)]) d_SQ_makeRun_104 (by decide) rfl ?_
        obtain ⟨n38, h⟩ := h
        refine w_SpillQueue_makeRun_6_106 X ad Q (_) x2 x3 x4 x5 x6 v37 E C hRm r ?_ n38 0 s35 h
        intro v40 s39 h
        refine g_aload_n C d_SQ_makeRun_134 rfl 0 rfl ?_
        refine g_get C (v := .ref (ad 1)) 0 0 iw_SQ rfl rfl (by decide) (gt 229 (by decide +kernel) rfl) rfl rfl d_SQ_makeRun_135 ?_
        refine g_aload_n C d_SQ_makeRun_138 rfl 0 rfl ?_
        refine g_get C (v := .ref (ad 20)) 0 6 iw_SQ rfl rfl (by decide) (gt 235 (by decide +kernel) rfl) rfl rfl d_SQ_makeRun_139 ?_
        refine g_iload C d_SQ_makeRun_142 6 rfl ?_
        obtain ⟨i41, h⟩ := h
        refine g_iald C 20 0 rfl rfl i41 d_SQ_makeRun_144 ?_
        refine g_callVN (host := "SpillQueue") C (rest := []) 1 (fun l => m_Disk_writeRow X ad (s39.2 12 x6.toNatClampNeg) s39 _ h l) rfl rfl (gn 529 (by decide +kernel) rfl) cb_DK_writeRow ⟨rfl, rfl⟩ (by rw [hRm]; decide) ⟨Nat.zero_le _, Nat.zero_le _⟩ rfl rfl (Nat.le_of_ble_eq_true rfl) d_SQ_makeRun_145 (gki (fun r43 s42 h => ?_))
        refine g_if_ne C 158 d_SQ_makeRun_148 (by decide) (fun c44 => ?_) (fun c44 => ?_)
        · have h := h.1 c44
          obtain ⟨v45, e_v45⟩ : ∃ y : Int32, y = x6 + 1 := ⟨_, rfl⟩
          have h := h v45 e_v45
          refine g_iinc C (v := v45) (lv2 := [(0, .ref (ad 0)), (1, .ref (ad 6)), (2, .int x2), (3, .int x3), (4, .int x4), (5, .int x5), (6, .int v45), (7, .int v37), (8, .int v40)]) d_SQ_makeRun_158 6 rfl (by rw [e_v45]; rfl) (by decide) rfl ?_
          refine g_goto C 45 d_SQ_makeRun_161 (by decide) ?_
          refine g_lv C [0, 1, 2, 3, 4, 5, 6] rfl ?_
          exact ih v45 s42 h
        · have h := h.2 c44
          refine g_aload_n C d_SQ_makeRun_151 rfl 0 rfl ?_
          refine g_callV C (rest := []) 0 (fun l => m_SpillQueue_powerOff X ad  s42 _ h l) rfl rfl (gt 351 (by decide +kernel) rfl) cb_SQ_powerOff ⟨rfl, rfl⟩ (by rw [hRm]; decide) ⟨Nat.zero_le _, Nat.zero_le _⟩ rfl rfl (Nat.le_of_ble_eq_true rfl) d_SQ_makeRun_152 (gkv (fun s46 h => ?_))
          refine g_bipush C (-9) d_SQ_makeRun_155 (by decide) ?_
          exact g_iret r rfl d_SQ_makeRun_157 (gBi_mk h)
def wp_SpillQueue_makeRun_6 (a2 : Int32) (s : gS) (Q : Int32 → gS → Prop) : Prop := wp_Runs_howMany s (fun r2 s1 => wp_Disk_blocksFor r2 s1 (fun r4 s3 => ((r4 < 1 → Q (-2) s3) ∧ (¬ r4 < 1 → wp_SpillQueue_gatherFree s3 (fun r7 s6 => ((r4 ≤ r7 → wp_Disk_keysPerBlock s6 (fun r10 s9 => ∃ n48 : Nat, wl_SpillQueue_makeRun_6_45 Q (fun v50 s49 => wp_Runs_dropEmpty s49 (fun s51 => vp_in 0 200 ∧ (wp_Runs_add (s51.2 12 (0 : Int32).toNatClampNeg) 0 r2 a2 s51 (fun s54 => Q 0 s54)))) a2 r2 r4 r10 n48 0 s9)) ∧ (¬ r4 ≤ r7 → Q (-2) s6)))))))
set_option maxHeartbeats 4000000 in
set_option maxRecDepth 100000 in
theorem w_SpillQueue_makeRun_6 (X : gX) (ad : Nat → Nat) (a2 : Int32) (s : gS) (Q : Int32 → gS → Prop) (h : wp_SpillQueue_makeRun_6 a2 s Q) (E : gE) (C : gC X E b_SQ_makeRun 9 R_SQ) (hRm : gRm E = rm_SpillQueue_makeRun_6) (r : gR X E b_SQ_makeRun (some .int) (gBi (wC ad X) Q)) : gW X E 0 0 (wC ad X s) [(0, .ref (ad 0)), (1, .ref (ad 6)), (2, .int a2)] 0 [] := by
  have h : wp_Runs_howMany s (fun r2 s1 => wp_Disk_blocksFor r2 s1 (fun r4 s3 => ((r4 < 1 → Q (-2) s3) ∧ (¬ r4 < 1 → wp_SpillQueue_gatherFree s3 (fun r7 s6 => ((r4 ≤ r7 → wp_Disk_keysPerBlock s6 (fun r10 s9 => ∃ n48 : Nat, wl_SpillQueue_makeRun_6_45 Q (fun v50 s49 => wp_Runs_dropEmpty s49 (fun s51 => vp_in 0 200 ∧ (wp_Runs_add (s51.2 12 (0 : Int32).toNatClampNeg) 0 r2 a2 s51 (fun s54 => Q 0 s54)))) a2 r2 r4 r10 n48 0 s9)) ∧ (¬ r4 ≤ r7 → Q (-2) s6))))))) := h
  refine g_aload_n C d_SQ_makeRun_0 rfl 1 rfl ?_
  refine g_callU C (x := ⟨"SpillQueue$Keys", "howMany", "()I"⟩) (rest := []) (owner := "SpillQueue$Keys") 6 (fun l => m_Runs_howMany X ad  s _ h l) rfl rfl (gt 469 (by decide +kernel) rfl) (gt 471 (by decide +kernel) rfl) (gn 470 (by decide +kernel) rfl) (gt 473 (by decide +kernel) rfl) (gt 474 (by decide +kernel) rfl) (gt 91 (by decide +kernel) rfl) (gt 475 rfl rfl) (by decide +kernel) ⟨rfl, rfl⟩ (by rw [hRm]; decide) ⟨Nat.zero_le _, Nat.zero_le _⟩ rfl rfl (Nat.le_of_ble_eq_true rfl) d_SQ_makeRun_1 (gki (fun r2 s1 h => ?_))
  refine g_istore_n C (lv2 := [(0, .ref (ad 0)), (1, .ref (ad 6)), (2, .int a2), (3, .int r2)]) d_SQ_makeRun_4 rfl (by decide) rfl ?_
  refine g_aload_n C d_SQ_makeRun_5 rfl 0 rfl ?_
  refine g_get C (v := .ref (ad 1)) 0 0 iw_SQ rfl rfl (by decide) (gt 229 (by decide +kernel) rfl) rfl rfl d_SQ_makeRun_6 ?_
  refine g_iload_n C d_SQ_makeRun_9 rfl 3 rfl ?_
  refine g_callVN (host := "SpillQueue") C (rest := []) 1 (fun l => m_Disk_blocksFor X ad r2 s1 _ h l) rfl rfl (gn 476 (by decide +kernel) rfl) cb_DK_blocksFor ⟨rfl, rfl⟩ (by rw [hRm]; decide) ⟨Nat.zero_le _, Nat.zero_le _⟩ rfl rfl (Nat.le_of_ble_eq_true rfl) d_SQ_makeRun_10 (gki (fun r4 s3 h => ?_))
  refine g_istore C (lv2 := [(0, .ref (ad 0)), (1, .ref (ad 6)), (2, .int a2), (3, .int r2), (4, .int r4)]) d_SQ_makeRun_13 (by decide) rfl ?_
  refine g_iload C d_SQ_makeRun_15 4 rfl ?_
  refine g_iconst C 1 d_SQ_makeRun_17 (by decide) ?_
  refine g_icmp_lt C 30 d_SQ_makeRun_18 (by decide) (fun c5 => ?_) (fun c5 => ?_)
  · have h := h.1 c5
    refine g_bipush C (-2) d_SQ_makeRun_30 (by decide) ?_
    exact g_iret r rfl d_SQ_makeRun_32 (gBi_mk h)
  · have h := h.2 c5
    refine g_aload_n C d_SQ_makeRun_21 rfl 0 rfl ?_
    refine g_callV C (rest := []) 0 (fun l => m_SpillQueue_gatherFree X ad  s3 _ h l) rfl rfl (gt 484 (by decide +kernel) rfl) cb_SQ_gatherFree ⟨rfl, rfl⟩ (by rw [hRm]; decide) ⟨Nat.zero_le _, Nat.zero_le _⟩ rfl rfl (Nat.le_of_ble_eq_true rfl) d_SQ_makeRun_22 (gki (fun r7 s6 h => ?_))
    refine g_iload C d_SQ_makeRun_25 4 rfl ?_
    refine g_icmp_ge C 33 d_SQ_makeRun_27 (by decide) (fun c8 => ?_) (fun c8 => ?_)
    · have h := h.1 c8
      refine g_aload_n C d_SQ_makeRun_33 rfl 0 rfl ?_
      refine g_get C (v := .ref (ad 1)) 0 0 iw_SQ rfl rfl (by decide) (gt 229 (by decide +kernel) rfl) rfl rfl d_SQ_makeRun_34 ?_
      refine g_callVN (host := "SpillQueue") C (rest := []) 1 (fun l => m_Disk_keysPerBlock X ad  s6 _ h l) rfl rfl (gn 497 (by decide +kernel) rfl) cb_DK_keysPerBlock ⟨rfl, rfl⟩ (by rw [hRm]; decide) ⟨Nat.zero_le _, Nat.zero_le _⟩ rfl rfl (Nat.le_of_ble_eq_true rfl) d_SQ_makeRun_37 (gki (fun r10 s9 h => ?_))
      refine g_istore C (lv2 := [(0, .ref (ad 0)), (1, .ref (ad 6)), (2, .int a2), (3, .int r2), (4, .int r4), (5, .int r10)]) d_SQ_makeRun_40 (by decide) rfl ?_
      refine g_iconst C 0 d_SQ_makeRun_42 (by decide) ?_
      refine g_istore C (lv2 := [(0, .ref (ad 0)), (1, .ref (ad 6)), (2, .int a2), (3, .int r2), (4, .int r4), (5, .int r10), (6, .int 0)]) d_SQ_makeRun_43 (by decide) rfl ?_
      obtain ⟨n48, h⟩ := h
      refine w_SpillQueue_makeRun_6_45 X ad Q (_) a2 r2 r4 r10 E C hRm r ?_ n48 0 s9 h
      intro v50 s49 h
      refine g_aload_n C d_SQ_makeRun_164 rfl 0 rfl ?_
      refine g_get C (v := .ref (ad 6)) 0 2 iw_SQ rfl rfl (by decide) (gt 231 (by decide +kernel) rfl) rfl rfl d_SQ_makeRun_165 ?_
      refine g_callVN (host := "SpillQueue") C (rest := []) 6 (fun l => m_Runs_dropEmpty X ad  s49 _ h l) rfl rfl (gn 530 (by decide +kernel) rfl) cb_RU_dropEmpty ⟨rfl, rfl⟩ (by rw [hRm]; decide) ⟨Nat.zero_le _, Nat.zero_le _⟩ rfl rfl (Nat.le_of_ble_eq_true rfl) d_SQ_makeRun_168 (gkv (fun s51 h => ?_))
      refine g_aload_n C d_SQ_makeRun_171 rfl 0 rfl ?_
      refine g_get C (v := .ref (ad 6)) 0 2 iw_SQ rfl rfl (by decide) (gt 231 (by decide +kernel) rfl) rfl rfl d_SQ_makeRun_172 ?_
      refine g_aload_n C d_SQ_makeRun_175 rfl 0 rfl ?_
      refine g_get C (v := .ref (ad 20)) 0 6 iw_SQ rfl rfl (by decide) (gt 235 (by decide +kernel) rfl) rfl rfl d_SQ_makeRun_176 ?_
      refine g_iconst C 0 d_SQ_makeRun_179 (by decide) ?_
      obtain ⟨i53, h⟩ := h
      refine g_iald C 20 0 rfl rfl i53 d_SQ_makeRun_180 ?_
      refine g_iconst C 0 d_SQ_makeRun_181 (by decide) ?_
      refine g_iload_n C d_SQ_makeRun_182 rfl 3 rfl ?_
      refine g_iload_n C d_SQ_makeRun_183 rfl 2 rfl ?_
      refine g_callVN (host := "SpillQueue") C (rest := []) 6 (fun l => m_Runs_add X ad (s51.2 12 (0 : Int32).toNatClampNeg) 0 r2 a2 s51 _ h l) rfl rfl (gn 534 (by decide +kernel) rfl) cb_RU_add ⟨rfl, rfl⟩ (by rw [hRm]; decide) ⟨Nat.zero_le _, Nat.zero_le _⟩ rfl rfl (Nat.le_of_ble_eq_true rfl) d_SQ_makeRun_184 (gkv (fun s54 h => ?_))
      refine g_iconst C 0 d_SQ_makeRun_187 (by decide) ?_
      exact g_iret r rfl d_SQ_makeRun_188 (gBi_mk h)
    · have h := h.2 c8
      refine g_bipush C (-2) d_SQ_makeRun_30 (by decide) ?_
      exact g_iret r rfl d_SQ_makeRun_32 (gBi_mk h)
theorem m_SpillQueue_makeRun_6 (X : gX) (ad : Nat → Nat) (a2 : Int32) (s : gS) (Q : Int32 → gS → Prop) (h : wp_SpillQueue_makeRun_6 a2 s Q) (l : Launch) : gM l X y_SQ_makeRun b_SQ_makeRun 9 (some .int) rm_SpillQueue_makeRun_6 [.ref (ad 0), .ref (ad 6), .int a2] (wC ad X s) (gBi (wC ad X) Q) :=
  gM_of (by decide +kernel) rfl (Nat.le_of_ble_eq_true rfl) rfl (fun E C hRm r => w_SpillQueue_makeRun_6 X ad a2 s Q h E C hRm r)
def rm_SpillQueue_mergeCrowdedLevels : Room := { frames := 4, cells := 0, slots := 0, locals := 96 }
def wl_SpillQueue_mergeCrowdedLevels_2 (Q : Int32 → gS → Prop) (K : Int32 → gS → Prop) : Nat → Int32 → gS → Prop
  | 0, _, _ => False
  | n + 1, x1, s => ((9 ≤ x1 → K x1 s) ∧ (¬ 9 ≤ x1 → wp_Runs_crowdedAt (s.1 0) s (fun r3 s2 => ((0 ≤ r3 → vp_in r3 9 ∧ (∀ v6 : Int32, v6 = s2.2 6 r3.toNatClampNeg → wp_Runs_chooseLevel v6 s2 (fun s7 => wp_SpillQueue_makeRun_6 (v6 + 1) s7 (fun r10 s9 => ((r10 = 0 → ∀ v12 : Int32, v12 = x1 + 1 → wl_SpillQueue_mergeCrowdedLevels_2 Q K n v12 s9) ∧ (¬ r10 = 0 → ((¬ r10 = (-2) → Q r10 s9) ∧ (r10 = (-2) → Q 0 s9)))))))) ∧ (¬ 0 ≤ r3 → Q 0 s2)))))
set_option maxHeartbeats 4000000 in
set_option maxRecDepth 100000 in
theorem w_SpillQueue_mergeCrowdedLevels_2 (X : gX) (ad : Nat → Nat) (Q : Int32 → gS → Prop) (K : Int32 → gS → Prop) (E : gE) (C : gC X E b_SQ_mergeCrowdedLevels 5 R_SQ) (hRm : gRm E = rm_SpillQueue_mergeCrowdedLevels) (r : gR X E b_SQ_mergeCrowdedLevels (some .int) (gBi (wC ad X) Q)) (hK : ∀ (x1 : Int32) (s : gS), K x1 s → gW X E 0 0 (wC ad X s) [(0, .ref (ad 0)), (1, .int x1)] 82 []) : ∀ (n : Nat) (x1 : Int32) (s : gS), wl_SpillQueue_mergeCrowdedLevels_2 Q K n x1 s → gW X E 0 0 (wC ad X s) [(0, .ref (ad 0)), (1, .int x1)] 2 [] := by
  intro n
  induction n with
  | zero => intro x1 s h; exact False.elim h
  | succ n ih =>
    intro x1 s h
    have h : ((9 ≤ x1 → K x1 s) ∧ (¬ 9 ≤ x1 → wp_Runs_crowdedAt (s.1 0) s (fun r3 s2 => ((0 ≤ r3 → vp_in r3 9 ∧ (∀ v6 : Int32, v6 = s2.2 6 r3.toNatClampNeg → wp_Runs_chooseLevel v6 s2 (fun s7 => wp_SpillQueue_makeRun_6 (v6 + 1) s7 (fun r10 s9 => ((r10 = 0 → ∀ v12 : Int32, v12 = x1 + 1 → wl_SpillQueue_mergeCrowdedLevels_2 Q K n v12 s9) ∧ (¬ r10 = 0 → ((¬ r10 = (-2) → Q r10 s9) ∧ (r10 = (-2) → Q 0 s9)))))))) ∧ (¬ 0 ≤ r3 → Q 0 s2))))) := h
    refine g_iload_n C d_SQ_mergeCrowdedLevels_2 rfl 1 rfl ?_
    refine g_bipush C 9 d_SQ_mergeCrowdedLevels_3 (by decide) ?_
    refine g_icmp_ge C 82 d_SQ_mergeCrowdedLevels_5 (by decide) (fun c1 => ?_) (fun c1 => ?_)
    · have h := h.1 c1
      exact hK x1 s h
    · have h := h.2 c1
      refine g_aload_n C d_SQ_mergeCrowdedLevels_8 rfl 0 rfl ?_
      refine g_get C (v := .ref (ad 6)) 0 2 iw_SQ rfl rfl (by decide) (gt 231 (by decide +kernel) rfl) rfl rfl d_SQ_mergeCrowdedLevels_9 ?_
      refine g_aload_n C d_SQ_mergeCrowdedLevels_12 rfl 0 rfl ?_
      refine g_get C (v := .int (s.1 0)) 0 7 iw_SQ rfl rfl (by decide) (gt 236 (by decide +kernel) rfl) rfl rfl d_SQ_mergeCrowdedLevels_13 ?_
      refine g_callVN (host := "SpillQueue") C (rest := []) 6 (fun l => m_Runs_crowdedAt X ad (s.1 0) s _ h l) rfl rfl (gn 542 (by decide +kernel) rfl) cb_RU_crowdedAt ⟨rfl, rfl⟩ (by rw [hRm]; decide) ⟨Nat.zero_le _, Nat.zero_le _⟩ rfl rfl (Nat.le_of_ble_eq_true rfl) d_SQ_mergeCrowdedLevels_16 (gki (fun r3 s2 h => ?_))
      refine g_istore_n C (lv2 := [(0, .ref (ad 0)), (1, .int x1), (2, .int r3)]) d_SQ_mergeCrowdedLevels_19 rfl (by decide) rfl ?_
      refine g_iload_n C d_SQ_mergeCrowdedLevels_20 rfl 2 rfl ?_
      refine g_if_ge C 26 d_SQ_mergeCrowdedLevels_21 (by decide) (fun c4 => ?_) (fun c4 => ?_)
      · have h := h.1 c4
        refine g_aload_n C d_SQ_mergeCrowdedLevels_26 rfl 0 rfl ?_
        refine g_get C (v := .ref (ad 6)) 0 2 iw_SQ rfl rfl (by decide) (gt 231 (by decide +kernel) rfl) rfl rfl d_SQ_mergeCrowdedLevels_27 ?_
        refine g_getN (host := "SpillQueue") C (v := .ref (ad 10)) 6 4 iw_RU rfl rfl (by decide) (gn 180 (by decide +kernel) rfl) rfl rfl d_SQ_mergeCrowdedLevels_30 ?_
        refine g_iload_n C d_SQ_mergeCrowdedLevels_33 rfl 2 rfl ?_
        obtain ⟨i5, h⟩ := h
        refine g_iald C 10 0 rfl rfl i5 d_SQ_mergeCrowdedLevels_34 ?_
        refine g_topi (fun v6 e_v6 => ?_)
        have h := h v6 e_v6
        refine g_istore_n C (lv2 := [(0, .ref (ad 0)), (1, .int x1), (2, .int r3), (3, .int v6)]) d_SQ_mergeCrowdedLevels_35 rfl (by decide) rfl ?_
        refine g_aload_n C d_SQ_mergeCrowdedLevels_36 rfl 0 rfl ?_
        refine g_get C (v := .ref (ad 6)) 0 2 iw_SQ rfl rfl (by decide) (gt 231 (by decide +kernel) rfl) rfl rfl d_SQ_mergeCrowdedLevels_37 ?_
        refine g_iload_n C d_SQ_mergeCrowdedLevels_40 rfl 3 rfl ?_
        refine g_callVN (host := "SpillQueue") C (rest := []) 6 (fun l => m_Runs_chooseLevel X ad v6 s2 _ h l) rfl rfl (gn 550 (by decide +kernel) rfl) cb_RU_chooseLevel ⟨rfl, rfl⟩ (by rw [hRm]; decide) ⟨Nat.zero_le _, Nat.zero_le _⟩ rfl rfl (Nat.le_of_ble_eq_true rfl) d_SQ_mergeCrowdedLevels_41 (gkv (fun s7 h => ?_))
        refine g_aload_n C d_SQ_mergeCrowdedLevels_44 rfl 0 rfl ?_
        refine g_aload_n C d_SQ_mergeCrowdedLevels_45 rfl 0 rfl ?_
        refine g_get C (v := .ref (ad 6)) 0 2 iw_SQ rfl rfl (by decide) (gt 231 (by decide +kernel) rfl) rfl rfl d_SQ_mergeCrowdedLevels_46 ?_
        refine g_iload_n C d_SQ_mergeCrowdedLevels_49 rfl 3 rfl ?_
        refine g_iconst C 1 d_SQ_mergeCrowdedLevels_50 (by decide) ?_
        refine g_iadd C d_SQ_mergeCrowdedLevels_51 ?_
        refine g_callV C (rest := []) 0 (fun l => m_SpillQueue_makeRun_6 X ad (v6 + 1) s7 _ h l) rfl rfl (gt 465 (by decide +kernel) rfl) cb_SQ_makeRun ⟨rfl, rfl⟩ (by rw [hRm]; decide) ⟨Nat.zero_le _, Nat.zero_le _⟩ rfl rfl (Nat.le_of_ble_eq_true rfl) d_SQ_mergeCrowdedLevels_52 (gki (fun r10 s9 h => ?_))
        refine g_istore C (lv2 := [(0, .ref (ad 0)), (1, .int x1), (2, .int r3), (3, .int v6), (4, .int r10)]) d_SQ_mergeCrowdedLevels_55 (by decide) rfl ?_
        refine g_iload C d_SQ_mergeCrowdedLevels_57 4 rfl ?_
        refine g_if_eq C 76 d_SQ_mergeCrowdedLevels_59 (by decide) (fun c11 => ?_) (fun c11 => ?_)
        · have h := h.1 c11
          obtain ⟨v12, e_v12⟩ : ∃ y : Int32, y = x1 + 1 := ⟨_, rfl⟩
          have h := h v12 e_v12
          refine g_iinc C (v := v12) (lv2 := [(0, .ref (ad 0)), (1, .int v12), (2, .int r3), (3, .int v6), (4, .int r10)]) d_SQ_mergeCrowdedLevels_76 1 rfl (by rw [e_v12]; rfl) (by decide) rfl ?_
          refine g_goto C 2 d_SQ_mergeCrowdedLevels_79 (by decide) ?_
          refine g_lv C [0, 1] rfl ?_
          exact ih v12 s9 h
        · have h := h.2 c11
          refine g_iload C d_SQ_mergeCrowdedLevels_62 4 rfl ?_
          refine g_bipush C (-2) d_SQ_mergeCrowdedLevels_64 (by decide) ?_
          refine g_icmp_ne C 73 d_SQ_mergeCrowdedLevels_66 (by decide) (fun c13 => ?_) (fun c13 => ?_)
          · have h := h.1 c13
            refine g_iload C d_SQ_mergeCrowdedLevels_73 4 rfl ?_
            exact g_iret r rfl d_SQ_mergeCrowdedLevels_75 (gBi_mk h)
          · have h := h.2 c13
            refine g_iconst C 0 d_SQ_mergeCrowdedLevels_69 (by decide) ?_
            refine g_goto C 75 d_SQ_mergeCrowdedLevels_70 (by decide) ?_
            exact g_iret r rfl d_SQ_mergeCrowdedLevels_75 (gBi_mk h)
      · have h := h.2 c4
        refine g_iconst C 0 d_SQ_mergeCrowdedLevels_24 (by decide) ?_
        exact g_iret r rfl d_SQ_mergeCrowdedLevels_25 (gBi_mk h)
def wp_SpillQueue_mergeCrowdedLevels (s : gS) (Q : Int32 → gS → Prop) : Prop := ∃ n14 : Nat, wl_SpillQueue_mergeCrowdedLevels_2 Q (fun v16 s15 => Q 0 s15)  n14 0 s
set_option maxHeartbeats 4000000 in
set_option maxRecDepth 100000 in
theorem w_SpillQueue_mergeCrowdedLevels (X : gX) (ad : Nat → Nat) (s : gS) (Q : Int32 → gS → Prop) (h : wp_SpillQueue_mergeCrowdedLevels  s Q) (E : gE) (C : gC X E b_SQ_mergeCrowdedLevels 5 R_SQ) (hRm : gRm E = rm_SpillQueue_mergeCrowdedLevels) (r : gR X E b_SQ_mergeCrowdedLevels (some .int) (gBi (wC ad X) Q)) : gW X E 0 0 (wC ad X s) [(0, .ref (ad 0))] 0 [] := by
  have h : ∃ n14 : Nat, wl_SpillQueue_mergeCrowdedLevels_2 Q (fun v16 s15 => Q 0 s15)  n14 0 s := h
  refine g_iconst C 0 d_SQ_mergeCrowdedLevels_0 (by decide) ?_
  refine g_istore_n C (lv2 := [(0, .ref (ad 0)), (1, .int 0)]) d_SQ_mergeCrowdedLevels_1 rfl (by decide) rfl ?_
  obtain ⟨n14, h⟩ := h
  refine w_SpillQueue_mergeCrowdedLevels_2 X ad Q (_)  E C hRm r ?_ n14 0 s h
  intro v16 s15 h
  refine g_iconst C 0 d_SQ_mergeCrowdedLevels_82 (by decide) ?_
  exact g_iret r rfl d_SQ_mergeCrowdedLevels_83 (gBi_mk h)
theorem m_SpillQueue_mergeCrowdedLevels (X : gX) (ad : Nat → Nat) (s : gS) (Q : Int32 → gS → Prop) (h : wp_SpillQueue_mergeCrowdedLevels  s Q) (l : Launch) : gM l X y_SQ_mergeCrowdedLevels b_SQ_mergeCrowdedLevels 5 (some .int) rm_SpillQueue_mergeCrowdedLevels [.ref (ad 0)] (wC ad X s) (gBi (wC ad X) Q) :=
  gM_of (by decide +kernel) rfl (Nat.le_of_ble_eq_true rfl) rfl (fun E C hRm r => w_SpillQueue_mergeCrowdedLevels X ad  s Q h E C hRm r)
