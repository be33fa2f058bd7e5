/-! The constructors. -/
theorem dv_BS : ∀ j, j < 1 → defaultValue (ty_BS j) = vp_V [.null] j := by
  intro j hj
  match j, hj with
  | 0, _ => rfl
  | j + 1, hj => exact absurd hj (by omega)
theorem dv_DK : ∀ j, j < 6 → defaultValue (ty_DK j) = vp_V [.null, .null, .int 0, .int 0, .int 0, .int 0] j := by
  intro j hj
  match j, hj with
  | 0, _ => rfl
  | 1, _ => rfl
  | 2, _ => rfl
  | 3, _ => rfl
  | 4, _ => rfl
  | 5, _ => rfl
  | j + 6, hj => exact absurd hj (by omega)
theorem dv_ME : ∀ j, j < 3 → defaultValue (ty_ME j) = vp_V [.null, .int 0, .int 0] j := by
  intro j hj
  match j, hj with
  | 0, _ => rfl
  | 1, _ => rfl
  | 2, _ => rfl
  | j + 3, hj => exact absurd hj (by omega)
theorem dv_RU : ∀ j, j < 8 → defaultValue (ty_RU j) = vp_V [.null, .null, .null, .null, .null, .null, .null, .int 0] j := by
  intro j hj
  match j, hj with
  | 0, _ => rfl
  | 1, _ => rfl
  | 2, _ => rfl
  | 3, _ => rfl
  | 4, _ => rfl
  | 5, _ => rfl
  | 6, _ => rfl
  | 7, _ => rfl
  | j + 8, hj => exact absurd hj (by omega)
theorem dv_SB : ∀ j, j < 2 → defaultValue (ty_SB j) = vp_V [.null, .null] j := by
  intro j hj
  match j, hj with
  | 0, _ => rfl
  | 1, _ => rfl
  | j + 2, hj => exact absurd hj (by omega)
theorem dv_SQ : ∀ j, j < 10 → defaultValue (ty_SQ j) = vp_V [.null, .null, .null, .null, .null, .null, .null, .int 0, .int 0, .int 0] j := by
  intro j hj
  match j, hj with
  | 0, _ => rfl
  | 1, _ => rfl
  | 2, _ => rfl
  | 3, _ => rfl
  | 4, _ => rfl
  | 5, _ => rfl
  | 6, _ => rfl
  | 7, _ => rfl
  | 8, _ => rfl
  | 9, _ => rfl
  | j + 10, hj => exact absurd hj (by omega)
theorem dv_MO : ∀ j, j < 27 → defaultValue (ty_MO j) = vp_V [.int 0, .int 0, .int 0, .int 0, .int 0, .int 0, .null, .int 0, .int 0, .int 0, .int 0, .int 0, .null, .int 0, .int 0, .null, .null, .null, .null, .null, .null, .null, .null, .null, .null, .null, .null] j := by
  intro j hj
  match j, hj with
  | 0, _ => rfl
  | 1, _ => rfl
  | 2, _ => rfl
  | 3, _ => rfl
  | 4, _ => rfl
  | 5, _ => rfl
  | 6, _ => rfl
  | 7, _ => rfl
  | 8, _ => rfl
  | 9, _ => rfl
  | 10, _ => rfl
  | 11, _ => rfl
  | 12, _ => rfl
  | 13, _ => rfl
  | 14, _ => rfl
  | 15, _ => rfl
  | 16, _ => rfl
  | 17, _ => rfl
  | 18, _ => rfl
  | 19, _ => rfl
  | 20, _ => rfl
  | 21, _ => rfl
  | 22, _ => rfl
  | 23, _ => rfl
  | 24, _ => rfl
  | 25, _ => rfl
  | 26, _ => rfl
  | j + 27, hj => exact absurd hj (by omega)
def rm_BS_init : Room := { frames := 1, cells := 1, slots := 200, locals := 12 }
def B_BS_init (X : gX) (h0 : Nat) : Option Value → va_W → Prop := fun v u => v = none ∧ ∃ q1 : Nat, u = [(h0, .inr (0, [.ref q1])), (q1, .inl (X.2.2.1, 200, .inl (fun _ => 0)))]
set_option maxHeartbeats 4000000 in
set_option maxRecDepth 100000 in
theorem m_BS_init (X : gX) (h0 : Nat) (l : Launch) : gMk l X y_BS_init b_BS_init 1 none rm_BS_init 1 200 [.ref h0] [(h0, .inr (0, [.null]))] (B_BS_init X h0) := by
  refine gMk_of (lv0 := [(0, .ref h0)]) (by decide +kernel) rfl rfl (Nat.le_of_ble_eq_true rfl) rfl (fun E C hRm hI r => ?_)
  refine g_aload_n C d_BS_init_0 rfl 0 rfl ?_
  refine g_objInit C (gt 215 (by decide +kernel) rfl) (gt 110 (by decide +kernel) rfl) (gt 111 rfl rfl) (by rw [hRm]; decide) d_BS_init_1 ?_
  refine g_aload_n C d_BS_init_4 rfl 0 rfl ?_
  refine g_sipush C 200 d_BS_init_5 (by decide) ?_
  refine g_newa C 1 (ty := .boolean) (a0 := (200, .inl (fun _ => 0))) (gt 203 (by decide +kernel) rfl) rfl rfl (fun _ _ h => h) (fun _ => rfl) (by decide) (by decide) (by decide) (by rw [hRm]; decide) d_BS_init_8 (fun q1 => ?_)
  refine g_w (ws2 := [(h0, .inr (0, [.null])), (q1, .inl (X.2.2.1, 200, .inl (fun _ => 0)))]) rfl ?_
  refine g_putF C hI 0 0 (ws2 := [(h0, .inr (0, [.ref q1])), (q1, .inl (X.2.2.1, 200, .inl (fun _ => 0)))]) iw_BS ty_BS tyok_BS nm_BS rfl rfl (by decide) (gt 216 (by decide +kernel) rfl) rfl rfl rfl rfl rfl (Nat.le_of_ble_eq_true rfl) rfl d_BS_init_10 ?_
  exact g_vretx r (by decide) (by decide) d_BS_init_13 ⟨rfl, q1, rfl⟩
def rm_DK_init : Room := { frames := 1, cells := 2, slots := 8040, locals := 12 }
def B_DK_init (X : gX) (h0 : Nat) : Option Value → va_W → Prop := fun v u => v = none ∧ ∃ q1 : Nat, ∃ q2 : Nat, u = [(h0, .inr (1, [.ref q1, .ref q2, .int 0, .int 0, .int 0, .int 0])), (q1, .inl (X.2.1, 8000, .inl (fun _ => 0))), (q2, .inl (X.2.1, 40, .inl (fun _ => 0)))]
set_option maxHeartbeats 4000000 in
set_option maxRecDepth 100000 in
theorem m_DK_init (X : gX) (h0 : Nat) (l : Launch) : gMk l X y_DK_init b_DK_init 1 none rm_DK_init 2 8040 [.ref h0] [(h0, .inr (1, [.null, .null, .int 0, .int 0, .int 0, .int 0]))] (B_DK_init X h0) := by
  refine gMk_of (lv0 := [(0, .ref h0)]) (by decide +kernel) rfl rfl (Nat.le_of_ble_eq_true rfl) rfl (fun E C hRm hI r => ?_)
  refine g_aload_n C d_DK_init_0 rfl 0 rfl ?_
  refine g_objInit C (gt 117 (by decide +kernel) rfl) (gt 110 (by decide +kernel) rfl) (gt 111 rfl rfl) (by rw [hRm]; decide) d_DK_init_1 ?_
  refine g_aload_n C d_DK_init_4 rfl 0 rfl ?_
  refine g_sipush C 8000 d_DK_init_5 (by decide) ?_
  refine g_newa C 0 (ty := .int) (a0 := (8000, .inl (fun _ => 0))) (gt 141 (by decide +kernel) rfl) rfl rfl (fun _ _ h => h) (fun _ => rfl) (by decide) (by decide) (by decide) (by rw [hRm]; decide) d_DK_init_8 (fun q1 => ?_)
  refine g_w (ws2 := [(h0, .inr (1, [.null, .null, .int 0, .int 0, .int 0, .int 0])), (q1, .inl (X.2.1, 8000, .inl (fun _ => 0)))]) rfl ?_
  refine g_putF C hI 0 0 (ws2 := [(h0, .inr (1, [.ref q1, .null, .int 0, .int 0, .int 0, .int 0])), (q1, .inl (X.2.1, 8000, .inl (fun _ => 0)))]) iw_DK ty_DK tyok_DK nm_DK rfl rfl (by decide) (gt 118 (by decide +kernel) rfl) rfl rfl rfl rfl rfl (Nat.le_of_ble_eq_true rfl) rfl d_DK_init_10 ?_
  refine g_aload_n C d_DK_init_13 rfl 0 rfl ?_
  refine g_bipush C 40 d_DK_init_14 (by decide) ?_
  refine g_newa C 0 (ty := .int) (a0 := (40, .inl (fun _ => 0))) (gt 141 (by decide +kernel) rfl) rfl rfl (fun _ _ h => h) (fun _ => rfl) (by decide) (by decide) (by decide) (by rw [hRm]; decide) d_DK_init_16 (fun q2 => ?_)
  refine g_w (ws2 := [(h0, .inr (1, [.ref q1, .null, .int 0, .int 0, .int 0, .int 0])), (q1, .inl (X.2.1, 8000, .inl (fun _ => 0))), (q2, .inl (X.2.1, 40, .inl (fun _ => 0)))]) rfl ?_
  refine g_putF C hI 0 1 (ws2 := [(h0, .inr (1, [.ref q1, .ref q2, .int 0, .int 0, .int 0, .int 0])), (q1, .inl (X.2.1, 8000, .inl (fun _ => 0))), (q2, .inl (X.2.1, 40, .inl (fun _ => 0)))]) iw_DK ty_DK tyok_DK nm_DK rfl rfl (by decide) (gt 119 (by decide +kernel) rfl) rfl rfl rfl rfl rfl (Nat.le_of_ble_eq_true rfl) rfl d_DK_init_18 ?_
  exact g_vretx r (by decide) (by decide) d_DK_init_21 ⟨rfl, q1, q2, rfl⟩
def rm_KE_init : Room := { frames := 1, cells := 0, slots := 0, locals := 12 }
def B_KE_init (X : gX) (h0 : Nat) : Option Value → va_W → Prop := fun v u => v = none ∧ u = []
set_option maxHeartbeats 4000000 in
set_option maxRecDepth 100000 in
theorem m_KE_init (X : gX) (h0 : Nat) (l : Launch) : gMk l X y_KE_init b_KE_init 1 none rm_KE_init 0 0 [.ref h0] [] (B_KE_init X h0) := by
  refine gMk_of (lv0 := [(0, .ref h0)]) (by decide +kernel) rfl rfl (Nat.le_of_ble_eq_true rfl) rfl (fun E C hRm hI r => ?_)
  refine g_aload_n C d_KE_init_0 rfl 0 rfl ?_
  refine g_objInit C (gt 150 (by decide +kernel) rfl) (gt 110 (by decide +kernel) rfl) (gt 111 rfl rfl) (by rw [hRm]; decide) d_KE_init_1 ?_
  exact g_vretx r (by decide) (by decide) d_KE_init_4 ⟨rfl, rfl⟩
def rm_ME_init : Room := { frames := 2, cells := 1, slots := 100, locals := 32 }
def B_ME_init (X : gX) (h0 : Nat) : Option Value → va_W → Prop := fun v u => v = none ∧ ∃ q1 : Nat, u = [(h0, .inr (2, [.ref q1, .int 0, .int 0])), (q1, .inl (X.2.1, 100, .inl (fun _ => 0)))]
set_option maxHeartbeats 4000000 in
set_option maxRecDepth 100000 in
theorem m_ME_init (X : gX) (h0 : Nat) (l : Launch) : gMk l X y_ME_init b_ME_init 1 none rm_ME_init 1 100 [.ref h0] [(h0, .inr (2, [.null, .int 0, .int 0]))] (B_ME_init X h0) := by
  refine gMk_of (lv0 := [(0, .ref h0)]) (by decide +kernel) rfl rfl (Nat.le_of_ble_eq_true rfl) rfl (fun E C hRm hI r => ?_)
  refine g_aload_n C d_ME_init_0 rfl 0 rfl ?_
  refine g_callIN C (n := 0) (host := "SpillQueue") (rest := []) (wr := [(h0, .inr (2, [.null, .int 0, .int 0]))]) [] [0] rfl rfl rfl rfl (by decide) (fun l => m_KE_init X h0 l) rfl (gn 147 (by decide +kernel) rfl) (gt 148 (by decide +kernel) rfl) (gt 89 (by decide +kernel) rfl) (gt 149 rfl rfl) (by decide +kernel) ⟨rfl, rfl⟩ (by rw [hRm]; decide) (by rw [hRm]; decide) rfl rfl (Nat.le_of_ble_eq_true rfl) d_ME_init_1 ?_
  rintro v u ⟨rfl, rfl⟩
  refine g_w (ws2 := [(h0, .inr (2, [.null, .int 0, .int 0]))]) rfl ?_
  show gW X E _ _ _ _ _ []
  refine g_aload_n C d_ME_init_4 rfl 0 rfl ?_
  refine g_bipush C 100 d_ME_init_5 (by decide) ?_
  refine g_newa C 0 (ty := .int) (a0 := (100, .inl (fun _ => 0))) (gt 141 (by decide +kernel) rfl) rfl rfl (fun _ _ h => h) (fun _ => rfl) (by decide) (by decide) (by decide) (by rw [hRm]; decide) d_ME_init_7 (fun q1 => ?_)
  refine g_w (ws2 := [(h0, .inr (2, [.null, .int 0, .int 0])), (q1, .inl (X.2.1, 100, .inl (fun _ => 0)))]) rfl ?_
  refine g_putF C hI 0 0 (ws2 := [(h0, .inr (2, [.ref q1, .int 0, .int 0])), (q1, .inl (X.2.1, 100, .inl (fun _ => 0)))]) iw_ME ty_ME tyok_ME nm_ME rfl rfl (by decide) (gt 151 (by decide +kernel) rfl) rfl rfl rfl rfl rfl (Nat.le_of_ble_eq_true rfl) rfl d_ME_init_9 ?_
  exact g_vretx r (by decide) (by decide) d_ME_init_12 ⟨rfl, q1, rfl⟩
def rm_RU_init : Room := { frames := 2, cells := 6, slots := 54, locals := 32 }
def B_RU_init (X : gX) (h0 : Nat) (h1 : Nat) : Option Value → va_W → Prop := fun v u => v = none ∧ ∃ q1 : Nat, ∃ q2 : Nat, ∃ q3 : Nat, ∃ q4 : Nat, ∃ q5 : Nat, ∃ q6 : Nat, u = [(h0, .inr (3, [.ref h1, .ref q1, .ref q2, .ref q3, .ref q4, .ref q5, .ref q6, .int 0])), (q1, .inl (X.2.1, 9, .inl (fun _ => 0))), (q2, .inl (X.2.1, 9, .inl (fun _ => 0))), (q3, .inl (X.2.1, 9, .inl (fun _ => 0))), (q4, .inl (X.2.1, 9, .inl (fun _ => 0))), (q5, .inl (X.2.1, 9, .inl (fun _ => 0))), (q6, .inl (X.2.2.1, 9, .inl (fun _ => 0)))]
set_option maxHeartbeats 4000000 in
set_option maxRecDepth 100000 in
theorem m_RU_init (X : gX) (h0 : Nat) (h1 : Nat) (l : Launch) : gMk l X y_RU_init b_RU_init 2 none rm_RU_init 6 54 [.ref h0, .ref h1] [(h0, .inr (3, [.null, .null, .null, .null, .null, .null, .null, .int 0]))] (B_RU_init X h0 h1) := by
  refine gMk_of (lv0 := [(0, .ref h0), (1, .ref h1)]) (by decide +kernel) rfl rfl (Nat.le_of_ble_eq_true rfl) rfl (fun E C hRm hI r => ?_)
  refine g_aload_n C d_RU_init_0 rfl 0 rfl ?_
  refine g_callIN C (n := 0) (host := "SpillQueue") (rest := []) (wr := [(h0, .inr (3, [.null, .null, .null, .null, .null, .null, .null, .int 0]))]) [] [0] rfl rfl rfl rfl (by decide) (fun l => m_KE_init X h0 l) rfl (gn 167 (by decide +kernel) rfl) (gt 148 (by decide +kernel) rfl) (gt 89 (by decide +kernel) rfl) (gt 149 rfl rfl) (by decide +kernel) ⟨rfl, rfl⟩ (by rw [hRm]; decide) (by rw [hRm]; decide) rfl rfl (Nat.le_of_ble_eq_true rfl) d_RU_init_1 ?_
  rintro v u ⟨rfl, rfl⟩
  refine g_w (ws2 := [(h0, .inr (3, [.null, .null, .null, .null, .null, .null, .null, .int 0]))]) rfl ?_
  show gW X E _ _ _ _ _ []
  refine g_aload_n C d_RU_init_4 rfl 0 rfl ?_
  refine g_bipush C 9 d_RU_init_5 (by decide) ?_
  refine g_newa C 0 (ty := .int) (a0 := (9, .inl (fun _ => 0))) (gt 141 (by decide +kernel) rfl) rfl rfl (fun _ _ h => h) (fun _ => rfl) (by decide) (by decide) (by decide) (by rw [hRm]; decide) d_RU_init_7 (fun q1 => ?_)
  refine g_w (ws2 := [(h0, .inr (3, [.null, .null, .null, .null, .null, .null, .null, .int 0])), (q1, .inl (X.2.1, 9, .inl (fun _ => 0)))]) rfl ?_
  refine g_putF C hI 0 1 (ws2 := [(h0, .inr (3, [.null, .ref q1, .null, .null, .null, .null, .null, .int 0])), (q1, .inl (X.2.1, 9, .inl (fun _ => 0)))]) iw_RU ty_RU tyok_RU nm_RU rfl rfl (by decide) (gt 169 (by decide +kernel) rfl) rfl rfl rfl rfl rfl (Nat.le_of_ble_eq_true rfl) rfl d_RU_init_9 ?_
  refine g_aload_n C d_RU_init_12 rfl 0 rfl ?_
  refine g_bipush C 9 d_RU_init_13 (by decide) ?_
  refine g_newa C 0 (ty := .int) (a0 := (9, .inl (fun _ => 0))) (gt 141 (by decide +kernel) rfl) rfl rfl (fun _ _ h => h) (fun _ => rfl) (by decide) (by decide) (by decide) (by rw [hRm]; decide) d_RU_init_15 (fun q2 => ?_)
  refine g_w (ws2 := [(h0, .inr (3, [.null, .ref q1, .null, .null, .null, .null, .null, .int 0])), (q1, .inl (X.2.1, 9, .inl (fun _ => 0))), (q2, .inl (X.2.1, 9, .inl (fun _ => 0)))]) rfl ?_
  refine g_putF C hI 0 2 (ws2 := [(h0, .inr (3, [.null, .ref q1, .ref q2, .null, .null, .null, .null, .int 0])), (q1, .inl (X.2.1, 9, .inl (fun _ => 0))), (q2, .inl (X.2.1, 9, .inl (fun _ => 0)))]) iw_RU ty_RU tyok_RU nm_RU rfl rfl (by decide) (gt 172 (by decide +kernel) rfl) rfl rfl rfl rfl rfl (Nat.le_of_ble_eq_true rfl) rfl d_RU_init_17 ?_
  refine g_aload_n C d_RU_init_20 rfl 0 rfl ?_
  refine g_bipush C 9 d_RU_init_21 (by decide) ?_
  refine g_newa C 0 (ty := .int) (a0 := (9, .inl (fun _ => 0))) (gt 141 (by decide +kernel) rfl) rfl rfl (fun _ _ h => h) (fun _ => rfl) (by decide) (by decide) (by decide) (by rw [hRm]; decide) d_RU_init_23 (fun q3 => ?_)
  refine g_w (ws2 := [(h0, .inr (3, [.null, .ref q1, .ref q2, .null, .null, .null, .null, .int 0])), (q1, .inl (X.2.1, 9, .inl (fun _ => 0))), (q2, .inl (X.2.1, 9, .inl (fun _ => 0))), (q3, .inl (X.2.1, 9, .inl (fun _ => 0)))]) rfl ?_
  refine g_putF C hI 0 3 (ws2 := [(h0, .inr (3, [.null, .ref q1, .ref q2, .ref q3, .null, .null, .null, .int 0])), (q1, .inl (X.2.1, 9, .inl (fun _ => 0))), (q2, .inl (X.2.1, 9, .inl (fun _ => 0))), (q3, .inl (X.2.1, 9, .inl (fun _ => 0)))]) iw_RU ty_RU tyok_RU nm_RU rfl rfl (by decide) (gt 175 (by decide +kernel) rfl) rfl rfl rfl rfl rfl (Nat.le_of_ble_eq_true rfl) rfl d_RU_init_25 ?_
  refine g_aload_n C d_RU_init_28 rfl 0 rfl ?_
  refine g_bipush C 9 d_RU_init_29 (by decide) ?_
  refine g_newa C 0 (ty := .int) (a0 := (9, .inl (fun _ => 0))) (gt 141 (by decide +kernel) rfl) rfl rfl (fun _ _ h => h) (fun _ => rfl) (by decide) (by decide) (by decide) (by rw [hRm]; decide) d_RU_init_31 (fun q4 => ?_)
  refine g_w (ws2 := [(h0, .inr (3, [.null, .ref q1, .ref q2, .ref q3, .null, .null, .null, .int 0])), (q1, .inl (X.2.1, 9, .inl (fun _ => 0))), (q2, .inl (X.2.1, 9, .inl (fun _ => 0))), (q3, .inl (X.2.1, 9, .inl (fun _ => 0))), (q4, .inl (X.2.1, 9, .inl (fun _ => 0)))]) rfl ?_
  refine g_putF C hI 0 4 (ws2 := [(h0, .inr (3, [.null, .ref q1, .ref q2, .ref q3, .ref q4, .null, .null, .int 0])), (q1, .inl (X.2.1, 9, .inl (fun _ => 0))), (q2, .inl (X.2.1, 9, .inl (fun _ => 0))), (q3, .inl (X.2.1, 9, .inl (fun _ => 0))), (q4, .inl (X.2.1, 9, .inl (fun _ => 0)))]) iw_RU ty_RU tyok_RU nm_RU rfl rfl (by decide) (gt 178 (by decide +kernel) rfl) rfl rfl rfl rfl rfl (Nat.le_of_ble_eq_true rfl) rfl d_RU_init_33 ?_
  refine g_aload_n C d_RU_init_36 rfl 0 rfl ?_
  refine g_bipush C 9 d_RU_init_37 (by decide) ?_
  refine g_newa C 0 (ty := .int) (a0 := (9, .inl (fun _ => 0))) (gt 141 (by decide +kernel) rfl) rfl rfl (fun _ _ h => h) (fun _ => rfl) (by decide) (by decide) (by decide) (by rw [hRm]; decide) d_RU_init_39 (fun q5 => ?_)
  refine g_w (ws2 := [(h0, .inr (3, [.null, .ref q1, .ref q2, .ref q3, .ref q4, .null, .null, .int 0])), (q1, .inl (X.2.1, 9, .inl (fun _ => 0))), (q2, .inl (X.2.1, 9, .inl (fun _ => 0))), (q3, .inl (X.2.1, 9, .inl (fun _ => 0))), (q4, .inl (X.2.1, 9, .inl (fun _ => 0))), (q5, .inl (X.2.1, 9, .inl (fun _ => 0)))]) rfl ?_
  refine g_putF C hI 0 5 (ws2 := [(h0, .inr (3, [.null, .ref q1, .ref q2, .ref q3, .ref q4, .ref q5, .null, .int 0])), (q1, .inl (X.2.1, 9, .inl (fun _ => 0))), (q2, .inl (X.2.1, 9, .inl (fun _ => 0))), (q3, .inl (X.2.1, 9, .inl (fun _ => 0))), (q4, .inl (X.2.1, 9, .inl (fun _ => 0))), (q5, .inl (X.2.1, 9, .inl (fun _ => 0)))]) iw_RU ty_RU tyok_RU nm_RU rfl rfl (by decide) (gt 181 (by decide +kernel) rfl) rfl rfl rfl rfl rfl (Nat.le_of_ble_eq_true rfl) rfl d_RU_init_41 ?_
  refine g_aload_n C d_RU_init_44 rfl 0 rfl ?_
  refine g_bipush C 9 d_RU_init_45 (by decide) ?_
  refine g_newa C 1 (ty := .boolean) (a0 := (9, .inl (fun _ => 0))) (gt 203 (by decide +kernel) rfl) rfl rfl (fun _ _ h => h) (fun _ => rfl) (by decide) (by decide) (by decide) (by rw [hRm]; decide) d_RU_init_47 (fun q6 => ?_)
  refine g_w (ws2 := [(h0, .inr (3, [.null, .ref q1, .ref q2, .ref q3, .ref q4, .ref q5, .null, .int 0])), (q1, .inl (X.2.1, 9, .inl (fun _ => 0))), (q2, .inl (X.2.1, 9, .inl (fun _ => 0))), (q3, .inl (X.2.1, 9, .inl (fun _ => 0))), (q4, .inl (X.2.1, 9, .inl (fun _ => 0))), (q5, .inl (X.2.1, 9, .inl (fun _ => 0))), (q6, .inl (X.2.2.1, 9, .inl (fun _ => 0)))]) rfl ?_
  refine g_putF C hI 0 6 (ws2 := [(h0, .inr (3, [.null, .ref q1, .ref q2, .ref q3, .ref q4, .ref q5, .ref q6, .int 0])), (q1, .inl (X.2.1, 9, .inl (fun _ => 0))), (q2, .inl (X.2.1, 9, .inl (fun _ => 0))), (q3, .inl (X.2.1, 9, .inl (fun _ => 0))), (q4, .inl (X.2.1, 9, .inl (fun _ => 0))), (q5, .inl (X.2.1, 9, .inl (fun _ => 0))), (q6, .inl (X.2.2.1, 9, .inl (fun _ => 0)))]) iw_RU ty_RU tyok_RU nm_RU rfl rfl (by decide) (gt 182 (by decide +kernel) rfl) rfl rfl rfl rfl rfl (Nat.le_of_ble_eq_true rfl) rfl d_RU_init_49 ?_
  refine g_aload_n C d_RU_init_52 rfl 0 rfl ?_
  refine g_aload_n C d_RU_init_53 rfl 1 rfl ?_
  refine g_putF C hI 0 0 (ws2 := [(h0, .inr (3, [.ref h1, .ref q1, .ref q2, .ref q3, .ref q4, .ref q5, .ref q6, .int 0])), (q1, .inl (X.2.1, 9, .inl (fun _ => 0))), (q2, .inl (X.2.1, 9, .inl (fun _ => 0))), (q3, .inl (X.2.1, 9, .inl (fun _ => 0))), (q4, .inl (X.2.1, 9, .inl (fun _ => 0))), (q5, .inl (X.2.1, 9, .inl (fun _ => 0))), (q6, .inl (X.2.2.1, 9, .inl (fun _ => 0)))]) iw_RU ty_RU tyok_RU nm_RU rfl rfl (by decide) (gt 168 (by decide +kernel) rfl) rfl rfl rfl rfl rfl (Nat.le_of_ble_eq_true rfl) rfl d_RU_init_54 ?_
  exact g_vretx r (by decide) (by decide) d_RU_init_57 ⟨rfl, q1, q2, q3, q4, q5, q6, rfl⟩
def rm_SB_init : Room := { frames := 2, cells := 2, slots := 201, locals := 32 }
def B_SB_init (X : gX) (h0 : Nat) (h1 : Nat) : Option Value → va_W → Prop := fun v u => v = none ∧ ∃ q1 : Nat, ∃ q2 : Nat, u = [(h0, .inr (4, [.ref h1, .ref q1])), (q1, .inr (0, [.ref q2])), (q2, .inl (X.2.2.1, 200, .inl (fun _ => 0)))]
set_option maxHeartbeats 4000000 in
set_option maxRecDepth 100000 in
theorem m_SB_init (X : gX) (h0 : Nat) (h1 : Nat) (l : Launch) : gMk l X y_SB_init b_SB_init 2 none rm_SB_init 2 201 [.ref h0, .ref h1] [(h0, .inr (4, [.null, .null]))] (B_SB_init X h0 h1) := by
  refine gMk_of (lv0 := [(0, .ref h0), (1, .ref h1)]) (by decide +kernel) rfl rfl (Nat.le_of_ble_eq_true rfl) rfl (fun E C hRm hI r => ?_)
  refine g_aload_n C d_SB_init_0 rfl 0 rfl ?_
  refine g_objInit C (gt 209 (by decide +kernel) rfl) (gt 110 (by decide +kernel) rfl) (gt 111 rfl rfl) (by rw [hRm]; decide) d_SB_init_1 ?_
  refine g_aload_n C d_SB_init_4 rfl 0 rfl ?_
  refine g_new C (ci := 0) (fs := [.null]) iw_BS ty_BS tyok_BS (gt 210 (by decide +kernel) rfl) (gt 211 (by decide +kernel) rfl) (gt 93 (by decide +kernel) rfl) rfl dv_BS (by rw [hRm]; decide) d_SB_init_5 (fun q1 => ?_)
  refine g_w (ws2 := [(h0, .inr (4, [.null, .null])), (q1, .inr (0, [.null]))]) rfl ?_
  refine g_dup C rfl d_SB_init_8 ?_
  refine g_callIN C (n := 0) (host := "SpillQueue") (rest := [.ref q1, .ref h0]) (wr := [(h0, .inr (4, [.null, .null]))]) [1] [0] rfl rfl rfl rfl (by decide) (fun l => m_BS_init X q1 l) rfl (gn 212 (by decide +kernel) rfl) (gt 213 (by decide +kernel) rfl) (gt 93 (by decide +kernel) rfl) (gt 214 rfl rfl) (by decide +kernel) ⟨rfl, rfl⟩ (by rw [hRm]; decide) (by rw [hRm]; decide) rfl rfl (Nat.le_of_ble_eq_true rfl) d_SB_init_9 ?_
  rintro v u ⟨rfl, q2, rfl⟩
  refine g_w (ws2 := [(h0, .inr (4, [.null, .null])), (q1, .inr (0, [.ref q2])), (q2, .inl (X.2.2.1, 200, .inl (fun _ => 0)))]) rfl ?_
  show gW X E _ _ _ _ _ [.ref q1, .ref h0]
  refine g_putF C hI 0 1 (ws2 := [(h0, .inr (4, [.null, .ref q1])), (q1, .inr (0, [.ref q2])), (q2, .inl (X.2.2.1, 200, .inl (fun _ => 0)))]) iw_SB ty_SB tyok_SB nm_SB rfl rfl (by decide) (gt 221 (by decide +kernel) rfl) rfl rfl rfl rfl rfl (Nat.le_of_ble_eq_true rfl) rfl d_SB_init_12 ?_
  refine g_aload_n C d_SB_init_15 rfl 0 rfl ?_
  refine g_aload_n C d_SB_init_16 rfl 1 rfl ?_
  refine g_putF C hI 0 0 (ws2 := [(h0, .inr (4, [.ref h1, .ref q1])), (q1, .inr (0, [.ref q2])), (q2, .inl (X.2.2.1, 200, .inl (fun _ => 0)))]) iw_SB ty_SB tyok_SB nm_SB rfl rfl (by decide) (gt 220 (by decide +kernel) rfl) rfl rfl rfl rfl rfl (Nat.le_of_ble_eq_true rfl) rfl d_SB_init_17 ?_
  exact g_vretx r (by decide) (by decide) d_SB_init_20 ⟨rfl, q1, q2, rfl⟩
def rm_SQ_init : Room := { frames := 3, cells := 20, slots := 9016, locals := 53 }
def B_SQ_init (X : gX) (h0 : Nat) : Option Value → va_W → Prop := fun v u => v = none ∧ ∃ q1 : Nat, ∃ q2 : Nat, ∃ q3 : Nat, ∃ q4 : Nat, ∃ q5 : Nat, ∃ q6 : Nat, ∃ q7 : Nat, ∃ q8 : Nat, ∃ q9 : Nat, ∃ q10 : Nat, ∃ q11 : Nat, ∃ q12 : Nat, ∃ q13 : Nat, ∃ q14 : Nat, ∃ q15 : Nat, ∃ q16 : Nat, ∃ q17 : Nat, ∃ q18 : Nat, ∃ q19 : Nat, ∃ q20 : Nat, u = [(h0, .inr (5, [.ref q1, .ref q4, .ref q6, .ref q13, .ref q16, .ref q18, .ref q20, .int 0, .int 0, .int 0])), (q1, .inr (1, [.ref q2, .ref q3, .int 0, .int 0, .int 0, .int 0])), (q2, .inl (X.2.1, 8000, .inl (fun _ => 0))), (q3, .inl (X.2.1, 40, .inl (fun _ => 0))), (q4, .inr (2, [.ref q5, .int 0, .int 0])), (q5, .inl (X.2.1, 100, .inl (fun _ => 0))), (q6, .inr (3, [.ref q1, .ref q7, .ref q8, .ref q9, .ref q10, .ref q11, .ref q12, .int 0])), (q7, .inl (X.2.1, 9, .inl (fun _ => 0))), (q8, .inl (X.2.1, 9, .inl (fun _ => 0))), (q9, .inl (X.2.1, 9, .inl (fun _ => 0))), (q10, .inl (X.2.1, 9, .inl (fun _ => 0))), (q11, .inl (X.2.1, 9, .inl (fun _ => 0))), (q12, .inl (X.2.2.1, 9, .inl (fun _ => 0))), (q13, .inr (4, [.ref q1, .ref q14])), (q14, .inr (0, [.ref q15])), (q15, .inl (X.2.2.1, 200, .inl (fun _ => 0))), (q16, .inr (0, [.ref q17])), (q17, .inl (X.2.2.1, 200, .inl (fun _ => 0))), (q18, .inr (0, [.ref q19])), (q19, .inl (X.2.2.1, 200, .inl (fun _ => 0))), (q20, .inl (X.2.1, 200, .inl (fun _ => 0)))]
set_option maxHeartbeats 4000000 in
set_option maxRecDepth 100000 in
theorem m_SQ_init (X : gX) (h0 : Nat) (l : Launch) : gMk l X y_SQ_init b_SQ_init 1 none rm_SQ_init 20 9016 [.ref h0] [(h0, .inr (5, [.null, .null, .null, .null, .null, .null, .null, .int 0, .int 0, .int 0]))] (B_SQ_init X h0) := by
  refine gMk_of (lv0 := [(0, .ref h0)]) (by decide +kernel) rfl rfl (Nat.le_of_ble_eq_true rfl) rfl (fun E C hRm hI r => ?_)
  refine g_aload_n C d_SQ_init_0 rfl 0 rfl ?_
  refine g_objInit C (gt 109 (by decide +kernel) rfl) (gt 110 (by decide +kernel) rfl) (gt 111 rfl rfl) (by rw [hRm]; decide) d_SQ_init_1 ?_
  refine g_aload_n C d_SQ_init_4 rfl 0 rfl ?_
  refine g_new C (ci := 1) (fs := [.null, .null, .int 0, .int 0, .int 0, .int 0]) iw_DK ty_DK tyok_DK (gt 112 (by decide +kernel) rfl) (gt 113 (by decide +kernel) rfl) (gt 88 (by decide +kernel) rfl) rfl dv_DK (by rw [hRm]; decide) d_SQ_init_5 (fun q1 => ?_)
  refine g_w (ws2 := [(h0, .inr (5, [.null, .null, .null, .null, .null, .null, .null, .int 0, .int 0, .int 0])), (q1, .inr (1, [.null, .null, .int 0, .int 0, .int 0, .int 0]))]) rfl ?_
  refine g_dup C rfl d_SQ_init_8 ?_
  refine g_callIN C (n := 0) (host := "SpillQueue") (rest := [.ref q1, .ref h0]) (wr := [(h0, .inr (5, [.null, .null, .null, .null, .null, .null, .null, .int 0, .int 0, .int 0]))]) [1] [0] rfl rfl rfl rfl (by decide) (fun l => m_DK_init X q1 l) rfl (gn 114 (by decide +kernel) rfl) (gt 115 (by decide +kernel) rfl) (gt 88 (by decide +kernel) rfl) (gt 116 rfl rfl) (by decide +kernel) ⟨rfl, rfl⟩ (by rw [hRm]; decide) (by rw [hRm]; decide) rfl rfl (Nat.le_of_ble_eq_true rfl) d_SQ_init_9 ?_
  rintro v u ⟨rfl, q2, q3, rfl⟩
  refine g_w (ws2 := [(h0, .inr (5, [.null, .null, .null, .null, .null, .null, .null, .int 0, .int 0, .int 0])), (q1, .inr (1, [.ref q2, .ref q3, .int 0, .int 0, .int 0, .int 0])), (q2, .inl (X.2.1, 8000, .inl (fun _ => 0))), (q3, .inl (X.2.1, 40, .inl (fun _ => 0)))]) rfl ?_
  show gW X E _ _ _ _ _ [.ref q1, .ref h0]
  refine g_putF C hI 0 0 (ws2 := [(h0, .inr (5, [.ref q1, .null, .null, .null, .null, .null, .null, .int 0, .int 0, .int 0])), (q1, .inr (1, [.ref q2, .ref q3, .int 0, .int 0, .int 0, .int 0])), (q2, .inl (X.2.1, 8000, .inl (fun _ => 0))), (q3, .inl (X.2.1, 40, .inl (fun _ => 0)))]) iw_SQ ty_SQ tyok_SQ nm_SQ rfl rfl (by decide) (gt 229 (by decide +kernel) rfl) rfl rfl rfl rfl rfl (Nat.le_of_ble_eq_true rfl) rfl d_SQ_init_12 ?_
  refine g_aload_n C d_SQ_init_15 rfl 0 rfl ?_
  refine g_new C (ci := 2) (fs := [.null, .int 0, .int 0]) iw_ME ty_ME tyok_ME (gt 142 (by decide +kernel) rfl) (gt 143 (by decide +kernel) rfl) (gt 90 (by decide +kernel) rfl) rfl dv_ME (by rw [hRm]; decide) d_SQ_init_16 (fun q4 => ?_)
  refine g_w (ws2 := [(h0, .inr (5, [.ref q1, .null, .null, .null, .null, .null, .null, .int 0, .int 0, .int 0])), (q1, .inr (1, [.ref q2, .ref q3, .int 0, .int 0, .int 0, .int 0])), (q2, .inl (X.2.1, 8000, .inl (fun _ => 0))), (q3, .inl (X.2.1, 40, .inl (fun _ => 0))), (q4, .inr (2, [.null, .int 0, .int 0]))]) rfl ?_
  refine g_dup C rfl d_SQ_init_19 ?_
  refine g_callIN C (n := 0) (host := "SpillQueue") (rest := [.ref q4, .ref h0]) (wr := [(h0, .inr (5, [.ref q1, .null, .null, .null, .null, .null, .null, .int 0, .int 0, .int 0])), (q1, .inr (1, [.ref q2, .ref q3, .int 0, .int 0, .int 0, .int 0])), (q2, .inl (X.2.1, 8000, .inl (fun _ => 0))), (q3, .inl (X.2.1, 40, .inl (fun _ => 0)))]) [4] [0, 1, 2, 3] rfl rfl rfl rfl (by decide) (fun l => m_ME_init X q4 l) rfl (gn 144 (by decide +kernel) rfl) (gt 145 (by decide +kernel) rfl) (gt 90 (by decide +kernel) rfl) (gt 146 rfl rfl) (by decide +kernel) ⟨rfl, rfl⟩ (by rw [hRm]; decide) (by rw [hRm]; decide) rfl rfl (Nat.le_of_ble_eq_true rfl) d_SQ_init_20 ?_
  rintro v u ⟨rfl, q5, rfl⟩
  refine g_w (ws2 := [(h0, .inr (5, [.ref q1, .null, .null, .null, .null, .null, .null, .int 0, .int 0, .int 0])), (q1, .inr (1, [.ref q2, .ref q3, .int 0, .int 0, .int 0, .int 0])), (q2, .inl (X.2.1, 8000, .inl (fun _ => 0))), (q3, .inl (X.2.1, 40, .inl (fun _ => 0))), (q4, .inr (2, [.ref q5, .int 0, .int 0])), (q5, .inl (X.2.1, 100, .inl (fun _ => 0)))]) rfl ?_
  show gW X E _ _ _ _ _ [.ref q4, .ref h0]
  refine g_putF C hI 0 1 (ws2 := [(h0, .inr (5, [.ref q1, .ref q4, .null, .null, .null, .null, .null, .int 0, .int 0, .int 0])), (q1, .inr (1, [.ref q2, .ref q3, .int 0, .int 0, .int 0, .int 0])), (q2, .inl (X.2.1, 8000, .inl (fun _ => 0))), (q3, .inl (X.2.1, 40, .inl (fun _ => 0))), (q4, .inr (2, [.ref q5, .int 0, .int 0])), (q5, .inl (X.2.1, 100, .inl (fun _ => 0)))]) iw_SQ ty_SQ tyok_SQ nm_SQ rfl rfl (by decide) (gt 230 (by decide +kernel) rfl) rfl rfl rfl rfl rfl (Nat.le_of_ble_eq_true rfl) rfl d_SQ_init_23 ?_
  refine g_aload_n C d_SQ_init_26 rfl 0 rfl ?_
  refine g_new C (ci := 3) (fs := [.null, .null, .null, .null, .null, .null, .null, .int 0]) iw_RU ty_RU tyok_RU (gt 162 (by decide +kernel) rfl) (gt 163 (by decide +kernel) rfl) (gt 91 (by decide +kernel) rfl) rfl dv_RU (by rw [hRm]; decide) d_SQ_init_27 (fun q6 => ?_)
  refine g_w (ws2 := [(h0, .inr (5, [.ref q1, .ref q4, .null, .null, .null, .null, .null, .int 0, .int 0, .int 0])), (q1, .inr (1, [.ref q2, .ref q3, .int 0, .int 0, .int 0, .int 0])), (q2, .inl (X.2.1, 8000, .inl (fun _ => 0))), (q3, .inl (X.2.1, 40, .inl (fun _ => 0))), (q4, .inr (2, [.ref q5, .int 0, .int 0])), (q5, .inl (X.2.1, 100, .inl (fun _ => 0))), (q6, .inr (3, [.null, .null, .null, .null, .null, .null, .null, .int 0]))]) rfl ?_
  refine g_dup C rfl d_SQ_init_30 ?_
  refine g_aload_n C d_SQ_init_31 rfl 0 rfl ?_
  refine g_get C (v := .ref q1) 0 0 iw_SQ rfl rfl (by decide) (gt 229 (by decide +kernel) rfl) rfl rfl d_SQ_init_32 ?_
  refine g_callIN C (n := 1) (host := "SpillQueue") (rest := [.ref q6, .ref h0]) (wr := [(h0, .inr (5, [.ref q1, .ref q4, .null, .null, .null, .null, .null, .int 0, .int 0, .int 0])), (q1, .inr (1, [.ref q2, .ref q3, .int 0, .int 0, .int 0, .int 0])), (q2, .inl (X.2.1, 8000, .inl (fun _ => 0))), (q3, .inl (X.2.1, 40, .inl (fun _ => 0))), (q4, .inr (2, [.ref q5, .int 0, .int 0])), (q5, .inl (X.2.1, 100, .inl (fun _ => 0)))]) [6] [0, 1, 2, 3, 4, 5] rfl rfl rfl rfl (by decide) (fun l => m_RU_init X q6 q1 l) rfl (gn 164 (by decide +kernel) rfl) (gt 165 (by decide +kernel) rfl) (gt 91 (by decide +kernel) rfl) (gt 166 rfl rfl) (by decide +kernel) ⟨rfl, rfl⟩ (by rw [hRm]; decide) (by rw [hRm]; decide) rfl rfl (Nat.le_of_ble_eq_true rfl) d_SQ_init_35 ?_
  rintro v u ⟨rfl, q7, q8, q9, q10, q11, q12, rfl⟩
  refine g_w (ws2 := [(h0, .inr (5, [.ref q1, .ref q4, .null, .null, .null, .null, .null, .int 0, .int 0, .int 0])), (q1, .inr (1, [.ref q2, .ref q3, .int 0, .int 0, .int 0, .int 0])), (q2, .inl (X.2.1, 8000, .inl (fun _ => 0))), (q3, .inl (X.2.1, 40, .inl (fun _ => 0))), (q4, .inr (2, [.ref q5, .int 0, .int 0])), (q5, .inl (X.2.1, 100, .inl (fun _ => 0))), (q6, .inr (3, [.ref q1, .ref q7, .ref q8, .ref q9, .ref q10, .ref q11, .ref q12, .int 0])), (q7, .inl (X.2.1, 9, .inl (fun _ => 0))), (q8, .inl (X.2.1, 9, .inl (fun _ => 0))), (q9, .inl (X.2.1, 9, .inl (fun _ => 0))), (q10, .inl (X.2.1, 9, .inl (fun _ => 0))), (q11, .inl (X.2.1, 9, .inl (fun _ => 0))), (q12, .inl (X.2.2.1, 9, .inl (fun _ => 0)))]) rfl ?_
  show gW X E _ _ _ _ _ [.ref q6, .ref h0]
  refine g_putF C hI 0 2 (ws2 := [(h0, .inr (5, [.ref q1, .ref q4, .ref q6, .null, .null, .null, .null, .int 0, .int 0, .int 0])), (q1, .inr (1, [.ref q2, .ref q3, .int 0, .int 0, .int 0, .int 0])), (q2, .inl (X.2.1, 8000, .inl (fun _ => 0))), (q3, .inl (X.2.1, 40, .inl (fun _ => 0))), (q4, .inr (2, [.ref q5, .int 0, .int 0])), (q5, .inl (X.2.1, 100, .inl (fun _ => 0))), (q6, .inr (3, [.ref q1, .ref q7, .ref q8, .ref q9, .ref q10, .ref q11, .ref q12, .int 0])), (q7, .inl (X.2.1, 9, .inl (fun _ => 0))), (q8, .inl (X.2.1, 9, .inl (fun _ => 0))), (q9, .inl (X.2.1, 9, .inl (fun _ => 0))), (q10, .inl (X.2.1, 9, .inl (fun _ => 0))), (q11, .inl (X.2.1, 9, .inl (fun _ => 0))), (q12, .inl (X.2.2.1, 9, .inl (fun _ => 0)))]) iw_SQ ty_SQ tyok_SQ nm_SQ rfl rfl (by decide) (gt 231 (by decide +kernel) rfl) rfl rfl rfl rfl rfl (Nat.le_of_ble_eq_true rfl) rfl d_SQ_init_38 ?_
  refine g_aload_n C d_SQ_init_41 rfl 0 rfl ?_
  refine g_new C (ci := 4) (fs := [.null, .null]) iw_SB ty_SB tyok_SB (gt 204 (by decide +kernel) rfl) (gt 205 (by decide +kernel) rfl) (gt 92 (by decide +kernel) rfl) rfl dv_SB (by rw [hRm]; decide) d_SQ_init_42 (fun q13 => ?_)
  refine g_w (ws2 := [(h0, .inr (5, [.ref q1, .ref q4, .ref q6, .null, .null, .null, .null, .int 0, .int 0, .int 0])), (q1, .inr (1, [.ref q2, .ref q3, .int 0, .int 0, .int 0, .int 0])), (q2, .inl (X.2.1, 8000, .inl (fun _ => 0))), (q3, .inl (X.2.1, 40, .inl (fun _ => 0))), (q4, .inr (2, [.ref q5, .int 0, .int 0])), (q5, .inl (X.2.1, 100, .inl (fun _ => 0))), (q6, .inr (3, [.ref q1, .ref q7, .ref q8, .ref q9, .ref q10, .ref q11, .ref q12, .int 0])), (q7, .inl (X.2.1, 9, .inl (fun _ => 0))), (q8, .inl (X.2.1, 9, .inl (fun _ => 0))), (q9, .inl (X.2.1, 9, .inl (fun _ => 0))), (q10, .inl (X.2.1, 9, .inl (fun _ => 0))), (q11, .inl (X.2.1, 9, .inl (fun _ => 0))), (q12, .inl (X.2.2.1, 9, .inl (fun _ => 0))), (q13, .inr (4, [.null, .null]))]) rfl ?_
  refine g_dup C rfl d_SQ_init_45 ?_
  refine g_aload_n C d_SQ_init_46 rfl 0 rfl ?_
  refine g_get C (v := .ref q1) 0 0 iw_SQ rfl rfl (by decide) (gt 229 (by decide +kernel) rfl) rfl rfl d_SQ_init_47 ?_
  refine g_callIN C (n := 1) (host := "SpillQueue") (rest := [.ref q13, .ref h0]) (wr := [(h0, .inr (5, [.ref q1, .ref q4, .ref q6, .null, .null, .null, .null, .int 0, .int 0, .int 0])), (q1, .inr (1, [.ref q2, .ref q3, .int 0, .int 0, .int 0, .int 0])), (q2, .inl (X.2.1, 8000, .inl (fun _ => 0))), (q3, .inl (X.2.1, 40, .inl (fun _ => 0))), (q4, .inr (2, [.ref q5, .int 0, .int 0])), (q5, .inl (X.2.1, 100, .inl (fun _ => 0))), (q6, .inr (3, [.ref q1, .ref q7, .ref q8, .ref q9, .ref q10, .ref q11, .ref q12, .int 0])), (q7, .inl (X.2.1, 9, .inl (fun _ => 0))), (q8, .inl (X.2.1, 9, .inl (fun _ => 0))), (q9, .inl (X.2.1, 9, .inl (fun _ => 0))), (q10, .inl (X.2.1, 9, .inl (fun _ => 0))), (q11, .inl (X.2.1, 9, .inl (fun _ => 0))), (q12, .inl (X.2.2.1, 9, .inl (fun _ => 0)))]) [13] [0, 1, 2, 3, 4, 5, 6, 7, 8, 9, 10, 11, 12] rfl rfl rfl rfl (by decide) (fun l => m_SB_init X q13 q1 l) rfl (gn 206 (by decide +kernel) rfl) (gt 207 (by decide +kernel) rfl) (gt 92 (by decide +kernel) rfl) (gt 208 rfl rfl) (by decide +kernel) ⟨rfl, rfl⟩ (by rw [hRm]; decide) (by rw [hRm]; decide) rfl rfl (Nat.le_of_ble_eq_true rfl) d_SQ_init_50 ?_
  rintro v u ⟨rfl, q14, q15, rfl⟩
  refine g_w (ws2 := [(h0, .inr (5, [.ref q1, .ref q4, .ref q6, .null, .null, .null, .null, .int 0, .int 0, .int 0])), (q1, .inr (1, [.ref q2, .ref q3, .int 0, .int 0, .int 0, .int 0])), (q2, .inl (X.2.1, 8000, .inl (fun _ => 0))), (q3, .inl (X.2.1, 40, .inl (fun _ => 0))), (q4, .inr (2, [.ref q5, .int 0, .int 0])), (q5, .inl (X.2.1, 100, .inl (fun _ => 0))), (q6, .inr (3, [.ref q1, .ref q7, .ref q8, .ref q9, .ref q10, .ref q11, .ref q12, .int 0])), (q7, .inl (X.2.1, 9, .inl (fun _ => 0))), (q8, .inl (X.2.1, 9, .inl (fun _ => 0))), (q9, .inl (X.2.1, 9, .inl (fun _ => 0))), (q10, .inl (X.2.1, 9, .inl (fun _ => 0))), (q11, .inl (X.2.1, 9, .inl (fun _ => 0))), (q12, .inl (X.2.2.1, 9, .inl (fun _ => 0))), (q13, .inr (4, [.ref q1, .ref q14])), (q14, .inr (0, [.ref q15])), (q15, .inl (X.2.2.1, 200, .inl (fun _ => 0)))]) rfl ?_
  show gW X E _ _ _ _ _ [.ref q13, .ref h0]
  refine g_putF C hI 0 3 (ws2 := [(h0, .inr (5, [.ref q1, .ref q4, .ref q6, .ref q13, .null, .null, .null, .int 0, .int 0, .int 0])), (q1, .inr (1, [.ref q2, .ref q3, .int 0, .int 0, .int 0, .int 0])), (q2, .inl (X.2.1, 8000, .inl (fun _ => 0))), (q3, .inl (X.2.1, 40, .inl (fun _ => 0))), (q4, .inr (2, [.ref q5, .int 0, .int 0])), (q5, .inl (X.2.1, 100, .inl (fun _ => 0))), (q6, .inr (3, [.ref q1, .ref q7, .ref q8, .ref q9, .ref q10, .ref q11, .ref q12, .int 0])), (q7, .inl (X.2.1, 9, .inl (fun _ => 0))), (q8, .inl (X.2.1, 9, .inl (fun _ => 0))), (q9, .inl (X.2.1, 9, .inl (fun _ => 0))), (q10, .inl (X.2.1, 9, .inl (fun _ => 0))), (q11, .inl (X.2.1, 9, .inl (fun _ => 0))), (q12, .inl (X.2.2.1, 9, .inl (fun _ => 0))), (q13, .inr (4, [.ref q1, .ref q14])), (q14, .inr (0, [.ref q15])), (q15, .inl (X.2.2.1, 200, .inl (fun _ => 0)))]) iw_SQ ty_SQ tyok_SQ nm_SQ rfl rfl (by decide) (gt 232 (by decide +kernel) rfl) rfl rfl rfl rfl rfl (Nat.le_of_ble_eq_true rfl) rfl d_SQ_init_53 ?_
  refine g_aload_n C d_SQ_init_56 rfl 0 rfl ?_
  refine g_new C (ci := 0) (fs := [.null]) iw_BS ty_BS tyok_BS (gt 227 (by decide +kernel) rfl) (gt 211 (by decide +kernel) rfl) (gt 93 (by decide +kernel) rfl) rfl dv_BS (by rw [hRm]; decide) d_SQ_init_57 (fun q16 => ?_)
  refine g_w (ws2 := [(h0, .inr (5, [.ref q1, .ref q4, .ref q6, .ref q13, .null, .null, .null, .int 0, .int 0, .int 0])), (q1, .inr (1, [.ref q2, .ref q3, .int 0, .int 0, .int 0, .int 0])), (q2, .inl (X.2.1, 8000, .inl (fun _ => 0))), (q3, .inl (X.2.1, 40, .inl (fun _ => 0))), (q4, .inr (2, [.ref q5, .int 0, .int 0])), (q5, .inl (X.2.1, 100, .inl (fun _ => 0))), (q6, .inr (3, [.ref q1, .ref q7, .ref q8, .ref q9, .ref q10, .ref q11, .ref q12, .int 0])), (q7, .inl (X.2.1, 9, .inl (fun _ => 0))), (q8, .inl (X.2.1, 9, .inl (fun _ => 0))), (q9, .inl (X.2.1, 9, .inl (fun _ => 0))), (q10, .inl (X.2.1, 9, .inl (fun _ => 0))), (q11, .inl (X.2.1, 9, .inl (fun _ => 0))), (q12, .inl (X.2.2.1, 9, .inl (fun _ => 0))), (q13, .inr (4, [.ref q1, .ref q14])), (q14, .inr (0, [.ref q15])), (q15, .inl (X.2.2.1, 200, .inl (fun _ => 0))), (q16, .inr (0, [.null]))]) rfl ?_
  refine g_dup C rfl d_SQ_init_60 ?_
  refine g_callIN C (n := 0) (host := "SpillQueue") (rest := [.ref q16, .ref h0]) (wr := [(h0, .inr (5, [.ref q1, .ref q4, .ref q6, .ref q13, .null, .null, .null, .int 0, .int 0, .int 0])), (q1, .inr (1, [.ref q2, .ref q3, .int 0, .int 0, .int 0, .int 0])), (q2, .inl (X.2.1, 8000, .inl (fun _ => 0))), (q3, .inl (X.2.1, 40, .inl (fun _ => 0))), (q4, .inr (2, [.ref q5, .int 0, .int 0])), (q5, .inl (X.2.1, 100, .inl (fun _ => 0))), (q6, .inr (3, [.ref q1, .ref q7, .ref q8, .ref q9, .ref q10, .ref q11, .ref q12, .int 0])), (q7, .inl (X.2.1, 9, .inl (fun _ => 0))), (q8, .inl (X.2.1, 9, .inl (fun _ => 0))), (q9, .inl (X.2.1, 9, .inl (fun _ => 0))), (q10, .inl (X.2.1, 9, .inl (fun _ => 0))), (q11, .inl (X.2.1, 9, .inl (fun _ => 0))), (q12, .inl (X.2.2.1, 9, .inl (fun _ => 0))), (q13, .inr (4, [.ref q1, .ref q14])), (q14, .inr (0, [.ref q15])), (q15, .inl (X.2.2.1, 200, .inl (fun _ => 0)))]) [16] [0, 1, 2, 3, 4, 5, 6, 7, 8, 9, 10, 11, 12, 13, 14, 15] rfl rfl rfl rfl (by decide) (fun l => m_BS_init X q16 l) rfl (gn 228 (by decide +kernel) rfl) (gt 213 (by decide +kernel) rfl) (gt 93 (by decide +kernel) rfl) (gt 214 rfl rfl) (by decide +kernel) ⟨rfl, rfl⟩ (by rw [hRm]; decide) (by rw [hRm]; decide) rfl rfl (Nat.le_of_ble_eq_true rfl) d_SQ_init_61 ?_
  rintro v u ⟨rfl, q17, rfl⟩
  refine g_w (ws2 := [(h0, .inr (5, [.ref q1, .ref q4, .ref q6, .ref q13, .null, .null, .null, .int 0, .int 0, .int 0])), (q1, .inr (1, [.ref q2, .ref q3, .int 0, .int 0, .int 0, .int 0])), (q2, .inl (X.2.1, 8000, .inl (fun _ => 0))), (q3, .inl (X.2.1, 40, .inl (fun _ => 0))), (q4, .inr (2, [.ref q5, .int 0, .int 0])), (q5, .inl (X.2.1, 100, .inl (fun _ => 0))), (q6, .inr (3, [.ref q1, .ref q7, .ref q8, .ref q9, .ref q10, .ref q11, .ref q12, .int 0])), (q7, .inl (X.2.1, 9, .inl (fun _ => 0))), (q8, .inl (X.2.1, 9, .inl (fun _ => 0))), (q9, .inl (X.2.1, 9, .inl (fun _ => 0))), (q10, .inl (X.2.1, 9, .inl (fun _ => 0))), (q11, .inl (X.2.1, 9, .inl (fun _ => 0))), (q12, .inl (X.2.2.1, 9, .inl (fun _ => 0))), (q13, .inr (4, [.ref q1, .ref q14])), (q14, .inr (0, [.ref q15])), (q15, .inl (X.2.2.1, 200, .inl (fun _ => 0))), (q16, .inr (0, [.ref q17])), (q17, .inl (X.2.2.1, 200, .inl (fun _ => 0)))]) rfl ?_
  show gW X E _ _ _ _ _ [.ref q16, .ref h0]
  refine g_putF C hI 0 4 (ws2 := [(h0, .inr (5, [.ref q1, .ref q4, .ref q6, .ref q13, .ref q16, .null, .null, .int 0, .int 0, .int 0])), (q1, .inr (1, [.ref q2, .ref q3, .int 0, .int 0, .int 0, .int 0])), (q2, .inl (X.2.1, 8000, .inl (fun _ => 0))), (q3, .inl (X.2.1, 40, .inl (fun _ => 0))), (q4, .inr (2, [.ref q5, .int 0, .int 0])), (q5, .inl (X.2.1, 100, .inl (fun _ => 0))), (q6, .inr (3, [.ref q1, .ref q7, .ref q8, .ref q9, .ref q10, .ref q11, .ref q12, .int 0])), (q7, .inl (X.2.1, 9, .inl (fun _ => 0))), (q8, .inl (X.2.1, 9, .inl (fun _ => 0))), (q9, .inl (X.2.1, 9, .inl (fun _ => 0))), (q10, .inl (X.2.1, 9, .inl (fun _ => 0))), (q11, .inl (X.2.1, 9, .inl (fun _ => 0))), (q12, .inl (X.2.2.1, 9, .inl (fun _ => 0))), (q13, .inr (4, [.ref q1, .ref q14])), (q14, .inr (0, [.ref q15])), (q15, .inl (X.2.2.1, 200, .inl (fun _ => 0))), (q16, .inr (0, [.ref q17])), (q17, .inl (X.2.2.1, 200, .inl (fun _ => 0)))]) iw_SQ ty_SQ tyok_SQ nm_SQ rfl rfl (by decide) (gt 233 (by decide +kernel) rfl) rfl rfl rfl rfl rfl (Nat.le_of_ble_eq_true rfl) rfl d_SQ_init_64 ?_
  refine g_aload_n C d_SQ_init_67 rfl 0 rfl ?_
  refine g_new C (ci := 0) (fs := [.null]) iw_BS ty_BS tyok_BS (gt 227 (by decide +kernel) rfl) (gt 211 (by decide +kernel) rfl) (gt 93 (by decide +kernel) rfl) rfl dv_BS (by rw [hRm]; decide) d_SQ_init_68 (fun q18 => ?_)
  refine g_w (ws2 := [(h0, .inr (5, [.ref q1, .ref q4, .ref q6, .ref q13, .ref q16, .null, .null, .int 0, .int 0, .int 0])), (q1, .inr (1, [.ref q2, .ref q3, .int 0, .int 0, .int 0, .int 0])), (q2, .inl (X.2.1, 8000, .inl (fun _ => 0))), (q3, .inl (X.2.1, 40, .inl (fun _ => 0))), (q4, .inr (2, [.ref q5, .int 0, .int 0])), (q5, .inl (X.2.1, 100, .inl (fun _ => 0))), (q6, .inr (3, [.ref q1, .ref q7, .ref q8, .ref q9, .ref q10, .ref q11, .ref q12, .int 0])), (q7, .inl (X.2.1, 9, .inl (fun _ => 0))), (q8, .inl (X.2.1, 9, .inl (fun _ => 0))), (q9, .inl (X.2.1, 9, .inl (fun _ => 0))), (q10, .inl (X.2.1, 9, .inl (fun _ => 0))), (q11, .inl (X.2.1, 9, .inl (fun _ => 0))), (q12, .inl (X.2.2.1, 9, .inl (fun _ => 0))), (q13, .inr (4, [.ref q1, .ref q14])), (q14, .inr (0, [.ref q15])), (q15, .inl (X.2.2.1, 200, .inl (fun _ => 0))), (q16, .inr (0, [.ref q17])), (q17, .inl (X.2.2.1, 200, .inl (fun _ => 0))), (q18, .inr (0, [.null]))]) rfl ?_
  refine g_dup C rfl d_SQ_init_71 ?_
  refine g_callIN C (n := 0) (host := "SpillQueue") (rest := [.ref q18, .ref h0]) (wr := [(h0, .inr (5, [.ref q1, .ref q4, .ref q6, .ref q13, .ref q16, .null, .null, .int 0, .int 0, .int 0])), (q1, .inr (1, [.ref q2, .ref q3, .int 0, .int 0, .int 0, .int 0])), (q2, .inl (X.2.1, 8000, .inl (fun _ => 0))), (q3, .inl (X.2.1, 40, .inl (fun _ => 0))), (q4, .inr (2, [.ref q5, .int 0, .int 0])), (q5, .inl (X.2.1, 100, .inl (fun _ => 0))), (q6, .inr (3, [.ref q1, .ref q7, .ref q8, .ref q9, .ref q10, .ref q11, .ref q12, .int 0])), (q7, .inl (X.2.1, 9, .inl (fun _ => 0))), (q8, .inl (X.2.1, 9, .inl (fun _ => 0))), (q9, .inl (X.2.1, 9, .inl (fun _ => 0))), (q10, .inl (X.2.1, 9, .inl (fun _ => 0))), (q11, .inl (X.2.1, 9, .inl (fun _ => 0))), (q12, .inl (X.2.2.1, 9, .inl (fun _ => 0))), (q13, .inr (4, [.ref q1, .ref q14])), (q14, .inr (0, [.ref q15])), (q15, .inl (X.2.2.1, 200, .inl (fun _ => 0))), (q16, .inr (0, [.ref q17])), (q17, .inl (X.2.2.1, 200, .inl (fun _ => 0)))]) [18] [0, 1, 2, 3, 4, 5, 6, 7, 8, 9, 10, 11, 12, 13, 14, 15, 16, 17] rfl rfl rfl rfl (by decide) (fun l => m_BS_init X q18 l) rfl (gn 228 (by decide +kernel) rfl) (gt 213 (by decide +kernel) rfl) (gt 93 (by decide +kernel) rfl) (gt 214 rfl rfl) (by decide +kernel) ⟨rfl, rfl⟩ (by rw [hRm]; decide) (by rw [hRm]; decide) rfl rfl (Nat.le_of_ble_eq_true rfl) d_SQ_init_72 ?_
  rintro v u ⟨rfl, q19, rfl⟩
  refine g_w (ws2 := [(h0, .inr (5, [.ref q1, .ref q4, .ref q6, .ref q13, .ref q16, .null, .null, .int 0, .int 0, .int 0])), (q1, .inr (1, [.ref q2, .ref q3, .int 0, .int 0, .int 0, .int 0])), (q2, .inl (X.2.1, 8000, .inl (fun _ => 0))), (q3, .inl (X.2.1, 40, .inl (fun _ => 0))), (q4, .inr (2, [.ref q5, .int 0, .int 0])), (q5, .inl (X.2.1, 100, .inl (fun _ => 0))), (q6, .inr (3, [.ref q1, .ref q7, .ref q8, .ref q9, .ref q10, .ref q11, .ref q12, .int 0])), (q7, .inl (X.2.1, 9, .inl (fun _ => 0))), (q8, .inl (X.2.1, 9, .inl (fun _ => 0))), (q9, .inl (X.2.1, 9, .inl (fun _ => 0))), (q10, .inl (X.2.1, 9, .inl (fun _ => 0))), (q11, .inl (X.2.1, 9, .inl (fun _ => 0))), (q12, .inl (X.2.2.1, 9, .inl (fun _ => 0))), (q13, .inr (4, [.ref q1, .ref q14])), (q14, .inr (0, [.ref q15])), (q15, .inl (X.2.2.1, 200, .inl (fun _ => 0))), (q16, .inr (0, [.ref q17])), (q17, .inl (X.2.2.1, 200, .inl (fun _ => 0))), (q18, .inr (0, [.ref q19])), (q19, .inl (X.2.2.1, 200, .inl (fun _ => 0)))]) rfl ?_
  show gW X E _ _ _ _ _ [.ref q18, .ref h0]
  refine g_putF C hI 0 5 (ws2 := [(h0, .inr (5, [.ref q1, .ref q4, .ref q6, .ref q13, .ref q16, .ref q18, .null, .int 0, .int 0, .int 0])), (q1, .inr (1, [.ref q2, .ref q3, .int 0, .int 0, .int 0, .int 0])), (q2, .inl (X.2.1, 8000, .inl (fun _ => 0))), (q3, .inl (X.2.1, 40, .inl (fun _ => 0))), (q4, .inr (2, [.ref q5, .int 0, .int 0])), (q5, .inl (X.2.1, 100, .inl (fun _ => 0))), (q6, .inr (3, [.ref q1, .ref q7, .ref q8, .ref q9, .ref q10, .ref q11, .ref q12, .int 0])), (q7, .inl (X.2.1, 9, .inl (fun _ => 0))), (q8, .inl (X.2.1, 9, .inl (fun _ => 0))), (q9, .inl (X.2.1, 9, .inl (fun _ => 0))), (q10, .inl (X.2.1, 9, .inl (fun _ => 0))), (q11, .inl (X.2.1, 9, .inl (fun _ => 0))), (q12, .inl (X.2.2.1, 9, .inl (fun _ => 0))), (q13, .inr (4, [.ref q1, .ref q14])), (q14, .inr (0, [.ref q15])), (q15, .inl (X.2.2.1, 200, .inl (fun _ => 0))), (q16, .inr (0, [.ref q17])), (q17, .inl (X.2.2.1, 200, .inl (fun _ => 0))), (q18, .inr (0, [.ref q19])), (q19, .inl (X.2.2.1, 200, .inl (fun _ => 0)))]) iw_SQ ty_SQ tyok_SQ nm_SQ rfl rfl (by decide) (gt 234 (by decide +kernel) rfl) rfl rfl rfl rfl rfl (Nat.le_of_ble_eq_true rfl) rfl d_SQ_init_75 ?_
  refine g_aload_n C d_SQ_init_78 rfl 0 rfl ?_
  refine g_sipush C 200 d_SQ_init_79 (by decide) ?_
  refine g_newa C 0 (ty := .int) (a0 := (200, .inl (fun _ => 0))) (gt 141 (by decide +kernel) rfl) rfl rfl (fun _ _ h => h) (fun _ => rfl) (by decide) (by decide) (by decide) (by rw [hRm]; decide) d_SQ_init_82 (fun q20 => ?_)
  refine g_w (ws2 := [(h0, .inr (5, [.ref q1, .ref q4, .ref q6, .ref q13, .ref q16, .ref q18, .null, .int 0, .int 0, .int 0])), (q1, .inr (1, [.ref q2, .ref q3, .int 0, .int 0, .int 0, .int 0])), (q2, .inl (X.2.1, 8000, .inl (fun _ => 0))), (q3, .inl (X.2.1, 40, .inl (fun _ => 0))), (q4, .inr (2, [.ref q5, .int 0, .int 0])), (q5, .inl (X.2.1, 100, .inl (fun _ => 0))), (q6, .inr (3, [.ref q1, .ref q7, .ref q8, .ref q9, .ref q10, .ref q11, .ref q12, .int 0])), (q7, .inl (X.2.1, 9, .inl (fun _ => 0))), (q8, .inl (X.2.1, 9, .inl (fun _ => 0))), (q9, .inl (X.2.1, 9, .inl (fun _ => 0))), (q10, .inl (X.2.1, 9, .inl (fun _ => 0))), (q11, .inl (X.2.1, 9, .inl (fun _ => 0))), (q12, .inl (X.2.2.1, 9, .inl (fun _ => 0))), (q13, .inr (4, [.ref q1, .ref q14])), (q14, .inr (0, [.ref q15])), (q15, .inl (X.2.2.1, 200, .inl (fun _ => 0))), (q16, .inr (0, [.ref q17])), (q17, .inl (X.2.2.1, 200, .inl (fun _ => 0))), (q18, .inr (0, [.ref q19])), (q19, .inl (X.2.2.1, 200, .inl (fun _ => 0))), (q20, .inl (X.2.1, 200, .inl (fun _ => 0)))]) rfl ?_
  refine g_putF C hI 0 6 (ws2 := [(h0, .inr (5, [.ref q1, .ref q4, .ref q6, .ref q13, .ref q16, .ref q18, .ref q20, .int 0, .int 0, .int 0])), (q1, .inr (1, [.ref q2, .ref q3, .int 0, .int 0, .int 0, .int 0])), (q2, .inl (X.2.1, 8000, .inl (fun _ => 0))), (q3, .inl (X.2.1, 40, .inl (fun _ => 0))), (q4, .inr (2, [.ref q5, .int 0, .int 0])), (q5, .inl (X.2.1, 100, .inl (fun _ => 0))), (q6, .inr (3, [.ref q1, .ref q7, .ref q8, .ref q9, .ref q10, .ref q11, .ref q12, .int 0])), (q7, .inl (X.2.1, 9, .inl (fun _ => 0))), (q8, .inl (X.2.1, 9, .inl (fun _ => 0))), (q9, .inl (X.2.1, 9, .inl (fun _ => 0))), (q10, .inl (X.2.1, 9, .inl (fun _ => 0))), (q11, .inl (X.2.1, 9, .inl (fun _ => 0))), (q12, .inl (X.2.2.1, 9, .inl (fun _ => 0))), (q13, .inr (4, [.ref q1, .ref q14])), (q14, .inr (0, [.ref q15])), (q15, .inl (X.2.2.1, 200, .inl (fun _ => 0))), (q16, .inr (0, [.ref q17])), (q17, .inl (X.2.2.1, 200, .inl (fun _ => 0))), (q18, .inr (0, [.ref q19])), (q19, .inl (X.2.2.1, 200, .inl (fun _ => 0))), (q20, .inl (X.2.1, 200, .inl (fun _ => 0)))]) iw_SQ ty_SQ tyok_SQ nm_SQ rfl rfl (by decide) (gt 235 (by decide +kernel) rfl) rfl rfl rfl rfl rfl (Nat.le_of_ble_eq_true rfl) rfl d_SQ_init_84 ?_
  exact g_vretx r (by decide) (by decide) d_SQ_init_87 ⟨rfl, q1, q2, q3, q4, q5, q6, q7, q8, q9, q10, q11, q12, q13, q14, q15, q16, q17, q18, q19, q20, rfl⟩
def rm_MO_init : Room := { frames := 1, cells := 14, slots := 8868, locals := 12 }
def B_MO_init (X : gX) (h0 : Nat) : Option Value → va_W → Prop := fun v u => v = none ∧ ∃ q1 : Nat, ∃ q2 : Nat, ∃ q3 : Nat, ∃ q4 : Nat, ∃ q5 : Nat, ∃ q6 : Nat, ∃ q7 : Nat, ∃ q8 : Nat, ∃ q9 : Nat, ∃ q10 : Nat, ∃ q11 : Nat, ∃ q12 : Nat, ∃ q13 : Nat, ∃ q14 : Nat, u = [(h0, .inr (6, [.int 0, .int 0, .int 0, .int 0, .int 0, .int 0, .ref q1, .int 0, .int 0, .int 0, .int 0, .int 0, .ref q2, .int 0, .int 0, .ref q3, .ref q4, .ref q5, .ref q6, .ref q7, .ref q8, .ref q9, .ref q10, .ref q11, .ref q12, .ref q13, .ref q14])), (q1, .inl (X.2.1, 8000, .inl (fun _ => 0))), (q2, .inl (X.2.1, 100, .inl (fun _ => 0))), (q3, .inl (X.2.1, 16, .inl (fun _ => 0))), (q4, .inl (X.2.1, 16, .inl (fun _ => 0))), (q5, .inl (X.2.1, 16, .inl (fun _ => 0))), (q6, .inl (X.2.1, 16, .inl (fun _ => 0))), (q7, .inl (X.2.2.1, 200, .inl (fun _ => 0))), (q8, .inl (X.2.2.1, 200, .inl (fun _ => 0))), (q9, .inl (X.2.1, 40, .inl (fun _ => 0))), (q10, .inl (X.2.1, 200, .inl (fun _ => 0))), (q11, .inl (X.2.1, 16, .inl (fun _ => 0))), (q12, .inl (X.2.1, 16, .inl (fun _ => 0))), (q13, .inl (X.2.1, 16, .inl (fun _ => 0))), (q14, .inl (X.2.2.1, 16, .inl (fun _ => 0)))]
set_option maxHeartbeats 4000000 in
set_option maxRecDepth 100000 in
theorem m_MO_init (X : gX) (h0 : Nat) (l : Launch) : gMk l X y_MO_init b_MO_init 1 none rm_MO_init 14 8868 [.ref h0] [(h0, .inr (6, [.int 0, .int 0, .int 0, .int 0, .int 0, .int 0, .null, .int 0, .int 0, .int 0, .int 0, .int 0, .null, .int 0, .int 0, .null, .null, .null, .null, .null, .null, .null, .null, .null, .null, .null, .null]))] (B_MO_init X h0) := by
  refine gMk_of (lv0 := [(0, .ref h0)]) (by decide +kernel) rfl rfl (Nat.le_of_ble_eq_true rfl) rfl (fun E C hRm hI r => ?_)
  refine g_aload_n C d_MO_init_0 rfl 0 rfl ?_
  refine g_objInit C (gt 730 (by decide +kernel) rfl) (gt 110 (by decide +kernel) rfl) (gt 111 rfl rfl) (by rw [hRm]; decide) d_MO_init_1 ?_
  refine g_aload_n C d_MO_init_4 rfl 0 rfl ?_
  refine g_sipush C 8000 d_MO_init_5 (by decide) ?_
  refine g_newa C 0 (ty := .int) (a0 := (8000, .inl (fun _ => 0))) (gt 141 (by decide +kernel) rfl) rfl rfl (fun _ _ h => h) (fun _ => rfl) (by decide) (by decide) (by decide) (by rw [hRm]; decide) d_MO_init_8 (fun q1 => ?_)
  refine g_w (ws2 := [(h0, .inr (6, [.int 0, .int 0, .int 0, .int 0, .int 0, .int 0, .null, .int 0, .int 0, .int 0, .int 0, .int 0, .null, .int 0, .int 0, .null, .null, .null, .null, .null, .null, .null, .null, .null, .null, .null, .null])), (q1, .inl (X.2.1, 8000, .inl (fun _ => 0)))]) rfl ?_
  refine g_putF C hI 0 6 (ws2 := [(h0, .inr (6, [.int 0, .int 0, .int 0, .int 0, .int 0, .int 0, .ref q1, .int 0, .int 0, .int 0, .int 0, .int 0, .null, .int 0, .int 0, .null, .null, .null, .null, .null, .null, .null, .null, .null, .null, .null, .null])), (q1, .inl (X.2.1, 8000, .inl (fun _ => 0)))]) iw_MO ty_MO tyok_MO nm_MO rfl rfl (by decide) (gt 737 (by decide +kernel) rfl) rfl rfl rfl rfl rfl (Nat.le_of_ble_eq_true rfl) rfl d_MO_init_10 ?_
  refine g_aload_n C d_MO_init_13 rfl 0 rfl ?_
  refine g_bipush C 100 d_MO_init_14 (by decide) ?_
  refine g_newa C 0 (ty := .int) (a0 := (100, .inl (fun _ => 0))) (gt 141 (by decide +kernel) rfl) rfl rfl (fun _ _ h => h) (fun _ => rfl) (by decide) (by decide) (by decide) (by rw [hRm]; decide) d_MO_init_16 (fun q2 => ?_)
  refine g_w (ws2 := [(h0, .inr (6, [.int 0, .int 0, .int 0, .int 0, .int 0, .int 0, .ref q1, .int 0, .int 0, .int 0, .int 0, .int 0, .null, .int 0, .int 0, .null, .null, .null, .null, .null, .null, .null, .null, .null, .null, .null, .null])), (q1, .inl (X.2.1, 8000, .inl (fun _ => 0))), (q2, .inl (X.2.1, 100, .inl (fun _ => 0)))]) rfl ?_
  refine g_putF C hI 0 12 (ws2 := [(h0, .inr (6, [.int 0, .int 0, .int 0, .int 0, .int 0, .int 0, .ref q1, .int 0, .int 0, .int 0, .int 0, .int 0, .ref q2, .int 0, .int 0, .null, .null, .null, .null, .null, .null, .null, .null, .null, .null, .null, .null])), (q1, .inl (X.2.1, 8000, .inl (fun _ => 0))), (q2, .inl (X.2.1, 100, .inl (fun _ => 0)))]) iw_MO ty_MO tyok_MO nm_MO rfl rfl (by decide) (gt 743 (by decide +kernel) rfl) rfl rfl rfl rfl rfl (Nat.le_of_ble_eq_true rfl) rfl d_MO_init_18 ?_
  refine g_aload_n C d_MO_init_21 rfl 0 rfl ?_
  refine g_bipush C 16 d_MO_init_22 (by decide) ?_
  refine g_newa C 0 (ty := .int) (a0 := (16, .inl (fun _ => 0))) (gt 141 (by decide +kernel) rfl) rfl rfl (fun _ _ h => h) (fun _ => rfl) (by decide) (by decide) (by decide) (by rw [hRm]; decide) d_MO_init_24 (fun q3 => ?_)
  refine g_w (ws2 := [(h0, .inr (6, [.int 0, .int 0, .int 0, .int 0, .int 0, .int 0, .ref q1, .int 0, .int 0, .int 0, .int 0, .int 0, .ref q2, .int 0, .int 0, .null, .null, .null, .null, .null, .null, .null, .null, .null, .null, .null, .null])), (q1, .inl (X.2.1, 8000, .inl (fun _ => 0))), (q2, .inl (X.2.1, 100, .inl (fun _ => 0))), (q3, .inl (X.2.1, 16, .inl (fun _ => 0)))]) rfl ?_
  refine g_putF C hI 0 15 (ws2 := [(h0, .inr (6, [.int 0, .int 0, .int 0, .int 0, .int 0, .int 0, .ref q1, .int 0, .int 0, .int 0, .int 0, .int 0, .ref q2, .int 0, .int 0, .ref q3, .null, .null, .null, .null, .null, .null, .null, .null, .null, .null, .null])), (q1, .inl (X.2.1, 8000, .inl (fun _ => 0))), (q2, .inl (X.2.1, 100, .inl (fun _ => 0))), (q3, .inl (X.2.1, 16, .inl (fun _ => 0)))]) iw_MO ty_MO tyok_MO nm_MO rfl rfl (by decide) (gt 746 (by decide +kernel) rfl) rfl rfl rfl rfl rfl (Nat.le_of_ble_eq_true rfl) rfl d_MO_init_26 ?_
  refine g_aload_n C d_MO_init_29 rfl 0 rfl ?_
  refine g_bipush C 16 d_MO_init_30 (by decide) ?_
  refine g_newa C 0 (ty := .int) (a0 := (16, .inl (fun _ => 0))) (gt 141 (by decide +kernel) rfl) rfl rfl (fun _ _ h => h) (fun _ => rfl) (by decide) (by decide) (by decide) (by rw [hRm]; decide) d_MO_init_32 (fun q4 => ?_)
  refine g_w (ws2 := [(h0, .inr (6, [.int 0, .int 0, .int 0, .int 0, .int 0, .int 0, .ref q1, .int 0, .int 0, .int 0, .int 0, .int 0, .ref q2, .int 0, .int 0, .ref q3, .null, .null, .null, .null, .null, .null, .null, .null, .null, .null, .null])), (q1, .inl (X.2.1, 8000, .inl (fun _ => 0))), (q2, .inl (X.2.1, 100, .inl (fun _ => 0))), (q3, .inl (X.2.1, 16, .inl (fun _ => 0))), (q4, .inl (X.2.1, 16, .inl (fun _ => 0)))]) rfl ?_
  refine g_putF C hI 0 16 (ws2 := [(h0, .inr (6, [.int 0, .int 0, .int 0, .int 0, .int 0, .int 0, .ref q1, .int 0, .int 0, .int 0, .int 0, .int 0, .ref q2, .int 0, .int 0, .ref q3, .ref q4, .null, .null, .null, .null, .null, .null, .null, .null, .null, .null])), (q1, .inl (X.2.1, 8000, .inl (fun _ => 0))), (q2, .inl (X.2.1, 100, .inl (fun _ => 0))), (q3, .inl (X.2.1, 16, .inl (fun _ => 0))), (q4, .inl (X.2.1, 16, .inl (fun _ => 0)))]) iw_MO ty_MO tyok_MO nm_MO rfl rfl (by decide) (gt 747 (by decide +kernel) rfl) rfl rfl rfl rfl rfl (Nat.le_of_ble_eq_true rfl) rfl d_MO_init_34 ?_
  refine g_aload_n C d_MO_init_37 rfl 0 rfl ?_
  refine g_bipush C 16 d_MO_init_38 (by decide) ?_
  refine g_newa C 0 (ty := .int) (a0 := (16, .inl (fun _ => 0))) (gt 141 (by decide +kernel) rfl) rfl rfl (fun _ _ h => h) (fun _ => rfl) (by decide) (by decide) (by decide) (by rw [hRm]; decide) d_MO_init_40 (fun q5 => ?_)
  refine g_w (ws2 := [(h0, .inr (6, [.int 0, .int 0, .int 0, .int 0, .int 0, .int 0, .ref q1, .int 0, .int 0, .int 0, .int 0, .int 0, .ref q2, .int 0, .int 0, .ref q3, .ref q4, .null, .null, .null, .null, .null, .null, .null, .null, .null, .null])), (q1, .inl (X.2.1, 8000, .inl (fun _ => 0))), (q2, .inl (X.2.1, 100, .inl (fun _ => 0))), (q3, .inl (X.2.1, 16, .inl (fun _ => 0))), (q4, .inl (X.2.1, 16, .inl (fun _ => 0))), (q5, .inl (X.2.1, 16, .inl (fun _ => 0)))]) rfl ?_
  refine g_putF C hI 0 17 (ws2 := [(h0, .inr (6, [.int 0, .int 0, .int 0, .int 0, .int 0, .int 0, .ref q1, .int 0, .int 0, .int 0, .int 0, .int 0, .ref q2, .int 0, .int 0, .ref q3, .ref q4, .ref q5, .null, .null, .null, .null, .null, .null, .null, .null, .null])), (q1, .inl (X.2.1, 8000, .inl (fun _ => 0))), (q2, .inl (X.2.1, 100, .inl (fun _ => 0))), (q3, .inl (X.2.1, 16, .inl (fun _ => 0))), (q4, .inl (X.2.1, 16, .inl (fun _ => 0))), (q5, .inl (X.2.1, 16, .inl (fun _ => 0)))]) iw_MO ty_MO tyok_MO nm_MO rfl rfl (by decide) (gt 748 (by decide +kernel) rfl) rfl rfl rfl rfl rfl (Nat.le_of_ble_eq_true rfl) rfl d_MO_init_42 ?_
  refine g_aload_n C d_MO_init_45 rfl 0 rfl ?_
  refine g_bipush C 16 d_MO_init_46 (by decide) ?_
  refine g_newa C 0 (ty := .int) (a0 := (16, .inl (fun _ => 0))) (gt 141 (by decide +kernel) rfl) rfl rfl (fun _ _ h => h) (fun _ => rfl) (by decide) (by decide) (by decide) (by rw [hRm]; decide) d_MO_init_48 (fun q6 => ?_)
  refine g_w (ws2 := [(h0, .inr (6, [.int 0, .int 0, .int 0, .int 0, .int 0, .int 0, .ref q1, .int 0, .int 0, .int 0, .int 0, .int 0, .ref q2, .int 0, .int 0, .ref q3, .ref q4, .ref q5, .null, .null, .null, .null, .null, .null, .null, .null, .null])), (q1, .inl (X.2.1, 8000, .inl (fun _ => 0))), (q2, .inl (X.2.1, 100, .inl (fun _ => 0))), (q3, .inl (X.2.1, 16, .inl (fun _ => 0))), (q4, .inl (X.2.1, 16, .inl (fun _ => 0))), (q5, .inl (X.2.1, 16, .inl (fun _ => 0))), (q6, .inl (X.2.1, 16, .inl (fun _ => 0)))]) rfl ?_
  refine g_putF C hI 0 18 (ws2 := [(h0, .inr (6, [.int 0, .int 0, .int 0, .int 0, .int 0, .int 0, .ref q1, .int 0, .int 0, .int 0, .int 0, .int 0, .ref q2, .int 0, .int 0, .ref q3, .ref q4, .ref q5, .ref q6, .null, .null, .null, .null, .null, .null, .null, .null])), (q1, .inl (X.2.1, 8000, .inl (fun _ => 0))), (q2, .inl (X.2.1, 100, .inl (fun _ => 0))), (q3, .inl (X.2.1, 16, .inl (fun _ => 0))), (q4, .inl (X.2.1, 16, .inl (fun _ => 0))), (q5, .inl (X.2.1, 16, .inl (fun _ => 0))), (q6, .inl (X.2.1, 16, .inl (fun _ => 0)))]) iw_MO ty_MO tyok_MO nm_MO rfl rfl (by decide) (gt 749 (by decide +kernel) rfl) rfl rfl rfl rfl rfl (Nat.le_of_ble_eq_true rfl) rfl d_MO_init_50 ?_
  refine g_aload_n C d_MO_init_53 rfl 0 rfl ?_
  refine g_sipush C 200 d_MO_init_54 (by decide) ?_
  refine g_newa C 1 (ty := .boolean) (a0 := (200, .inl (fun _ => 0))) (gt 203 (by decide +kernel) rfl) rfl rfl (fun _ _ h => h) (fun _ => rfl) (by decide) (by decide) (by decide) (by rw [hRm]; decide) d_MO_init_57 (fun q7 => ?_)
  refine g_w (ws2 := [(h0, .inr (6, [.int 0, .int 0, .int 0, .int 0, .int 0, .int 0, .ref q1, .int 0, .int 0, .int 0, .int 0, .int 0, .ref q2, .int 0, .int 0, .ref q3, .ref q4, .ref q5, .ref q6, .null, .null, .null, .null, .null, .null, .null, .null])), (q1, .inl (X.2.1, 8000, .inl (fun _ => 0))), (q2, .inl (X.2.1, 100, .inl (fun _ => 0))), (q3, .inl (X.2.1, 16, .inl (fun _ => 0))), (q4, .inl (X.2.1, 16, .inl (fun _ => 0))), (q5, .inl (X.2.1, 16, .inl (fun _ => 0))), (q6, .inl (X.2.1, 16, .inl (fun _ => 0))), (q7, .inl (X.2.2.1, 200, .inl (fun _ => 0)))]) rfl ?_
  refine g_putF C hI 0 19 (ws2 := [(h0, .inr (6, [.int 0, .int 0, .int 0, .int 0, .int 0, .int 0, .ref q1, .int 0, .int 0, .int 0, .int 0, .int 0, .ref q2, .int 0, .int 0, .ref q3, .ref q4, .ref q5, .ref q6, .ref q7, .null, .null, .null, .null, .null, .null, .null])), (q1, .inl (X.2.1, 8000, .inl (fun _ => 0))), (q2, .inl (X.2.1, 100, .inl (fun _ => 0))), (q3, .inl (X.2.1, 16, .inl (fun _ => 0))), (q4, .inl (X.2.1, 16, .inl (fun _ => 0))), (q5, .inl (X.2.1, 16, .inl (fun _ => 0))), (q6, .inl (X.2.1, 16, .inl (fun _ => 0))), (q7, .inl (X.2.2.1, 200, .inl (fun _ => 0)))]) iw_MO ty_MO tyok_MO nm_MO rfl rfl (by decide) (gt 750 (by decide +kernel) rfl) rfl rfl rfl rfl rfl (Nat.le_of_ble_eq_true rfl) rfl d_MO_init_59 ?_
  refine g_aload_n C d_MO_init_62 rfl 0 rfl ?_
  refine g_sipush C 200 d_MO_init_63 (by decide) ?_
  refine g_newa C 1 (ty := .boolean) (a0 := (200, .inl (fun _ => 0))) (gt 203 (by decide +kernel) rfl) rfl rfl (fun _ _ h => h) (fun _ => rfl) (by decide) (by decide) (by decide) (by rw [hRm]; decide) d_MO_init_66 (fun q8 => ?_)
  refine g_w (ws2 := [(h0, .inr (6, [.int 0, .int 0, .int 0, .int 0, .int 0, .int 0, .ref q1, .int 0, .int 0, .int 0, .int 0, .int 0, .ref q2, .int 0, .int 0, .ref q3, .ref q4, .ref q5, .ref q6, .ref q7, .null, .null, .null, .null, .null, .null, .null])), (q1, .inl (X.2.1, 8000, .inl (fun _ => 0))), (q2, .inl (X.2.1, 100, .inl (fun _ => 0))), (q3, .inl (X.2.1, 16, .inl (fun _ => 0))), (q4, .inl (X.2.1, 16, .inl (fun _ => 0))), (q5, .inl (X.2.1, 16, .inl (fun _ => 0))), (q6, .inl (X.2.1, 16, .inl (fun _ => 0))), (q7, .inl (X.2.2.1, 200, .inl (fun _ => 0))), (q8, .inl (X.2.2.1, 200, .inl (fun _ => 0)))]) rfl ?_
  refine g_putF C hI 0 20 (ws2 := [(h0, .inr (6, [.int 0, .int 0, .int 0, .int 0, .int 0, .int 0, .ref q1, .int 0, .int 0, .int 0, .int 0, .int 0, .ref q2, .int 0, .int 0, .ref q3, .ref q4, .ref q5, .ref q6, .ref q7, .ref q8, .null, .null, .null, .null, .null, .null])), (q1, .inl (X.2.1, 8000, .inl (fun _ => 0))), (q2, .inl (X.2.1, 100, .inl (fun _ => 0))), (q3, .inl (X.2.1, 16, .inl (fun _ => 0))), (q4, .inl (X.2.1, 16, .inl (fun _ => 0))), (q5, .inl (X.2.1, 16, .inl (fun _ => 0))), (q6, .inl (X.2.1, 16, .inl (fun _ => 0))), (q7, .inl (X.2.2.1, 200, .inl (fun _ => 0))), (q8, .inl (X.2.2.1, 200, .inl (fun _ => 0)))]) iw_MO ty_MO tyok_MO nm_MO rfl rfl (by decide) (gt 751 (by decide +kernel) rfl) rfl rfl rfl rfl rfl (Nat.le_of_ble_eq_true rfl) rfl d_MO_init_68 ?_
  refine g_aload_n C d_MO_init_71 rfl 0 rfl ?_
  refine g_bipush C 40 d_MO_init_72 (by decide) ?_
  refine g_newa C 0 (ty := .int) (a0 := (40, .inl (fun _ => 0))) (gt 141 (by decide +kernel) rfl) rfl rfl (fun _ _ h => h) (fun _ => rfl) (by decide) (by decide) (by decide) (by rw [hRm]; decide) d_MO_init_74 (fun q9 => ?_)
  refine g_w (ws2 := [(h0, .inr (6, [.int 0, .int 0, .int 0, .int 0, .int 0, .int 0, .ref q1, .int 0, .int 0, .int 0, .int 0, .int 0, .ref q2, .int 0, .int 0, .ref q3, .ref q4, .ref q5, .ref q6, .ref q7, .ref q8, .null, .null, .null, .null, .null, .null])), (q1, .inl (X.2.1, 8000, .inl (fun _ => 0))), (q2, .inl (X.2.1, 100, .inl (fun _ => 0))), (q3, .inl (X.2.1, 16, .inl (fun _ => 0))), (q4, .inl (X.2.1, 16, .inl (fun _ => 0))), (q5, .inl (X.2.1, 16, .inl (fun _ => 0))), (q6, .inl (X.2.1, 16, .inl (fun _ => 0))), (q7, .inl (X.2.2.1, 200, .inl (fun _ => 0))), (q8, .inl (X.2.2.1, 200, .inl (fun _ => 0))), (q9, .inl (X.2.1, 40, .inl (fun _ => 0)))]) rfl ?_
  refine g_putF C hI 0 21 (ws2 := [(h0, .inr (6, [.int 0, .int 0, .int 0, .int 0, .int 0, .int 0, .ref q1, .int 0, .int 0, .int 0, .int 0, .int 0, .ref q2, .int 0, .int 0, .ref q3, .ref q4, .ref q5, .ref q6, .ref q7, .ref q8, .ref q9, .null, .null, .null, .null, .null])), (q1, .inl (X.2.1, 8000, .inl (fun _ => 0))), (q2, .inl (X.2.1, 100, .inl (fun _ => 0))), (q3, .inl (X.2.1, 16, .inl (fun _ => 0))), (q4, .inl (X.2.1, 16, .inl (fun _ => 0))), (q5, .inl (X.2.1, 16, .inl (fun _ => 0))), (q6, .inl (X.2.1, 16, .inl (fun _ => 0))), (q7, .inl (X.2.2.1, 200, .inl (fun _ => 0))), (q8, .inl (X.2.2.1, 200, .inl (fun _ => 0))), (q9, .inl (X.2.1, 40, .inl (fun _ => 0)))]) iw_MO ty_MO tyok_MO nm_MO rfl rfl (by decide) (gt 752 (by decide +kernel) rfl) rfl rfl rfl rfl rfl (Nat.le_of_ble_eq_true rfl) rfl d_MO_init_76 ?_
  refine g_aload_n C d_MO_init_79 rfl 0 rfl ?_
  refine g_sipush C 200 d_MO_init_80 (by decide) ?_
  refine g_newa C 0 (ty := .int) (a0 := (200, .inl (fun _ => 0))) (gt 141 (by decide +kernel) rfl) rfl rfl (fun _ _ h => h) (fun _ => rfl) (by decide) (by decide) (by decide) (by rw [hRm]; decide) d_MO_init_83 (fun q10 => ?_)
  refine g_w (ws2 := [(h0, .inr (6, [.int 0, .int 0, .int 0, .int 0, .int 0, .int 0, .ref q1, .int 0, .int 0, .int 0, .int 0, .int 0, .ref q2, .int 0, .int 0, .ref q3, .ref q4, .ref q5, .ref q6, .ref q7, .ref q8, .ref q9, .null, .null, .null, .null, .null])), (q1, .inl (X.2.1, 8000, .inl (fun _ => 0))), (q2, .inl (X.2.1, 100, .inl (fun _ => 0))), (q3, .inl (X.2.1, 16, .inl (fun _ => 0))), (q4, .inl (X.2.1, 16, .inl (fun _ => 0))), (q5, .inl (X.2.1, 16, .inl (fun _ => 0))), (q6, .inl (X.2.1, 16, .inl (fun _ => 0))), (q7, .inl (X.2.2.1, 200, .inl (fun _ => 0))), (q8, .inl (X.2.2.1, 200, .inl (fun _ => 0))), (q9, .inl (X.2.1, 40, .inl (fun _ => 0))), (q10, .inl (X.2.1, 200, .inl (fun _ => 0)))]) rfl ?_
  refine g_putF C hI 0 22 (ws2 := [(h0, .inr (6, [.int 0, .int 0, .int 0, .int 0, .int 0, .int 0, .ref q1, .int 0, .int 0, .int 0, .int 0, .int 0, .ref q2, .int 0, .int 0, .ref q3, .ref q4, .ref q5, .ref q6, .ref q7, .ref q8, .ref q9, .ref q10, .null, .null, .null, .null])), (q1, .inl (X.2.1, 8000, .inl (fun _ => 0))), (q2, .inl (X.2.1, 100, .inl (fun _ => 0))), (q3, .inl (X.2.1, 16, .inl (fun _ => 0))), (q4, .inl (X.2.1, 16, .inl (fun _ => 0))), (q5, .inl (X.2.1, 16, .inl (fun _ => 0))), (q6, .inl (X.2.1, 16, .inl (fun _ => 0))), (q7, .inl (X.2.2.1, 200, .inl (fun _ => 0))), (q8, .inl (X.2.2.1, 200, .inl (fun _ => 0))), (q9, .inl (X.2.1, 40, .inl (fun _ => 0))), (q10, .inl (X.2.1, 200, .inl (fun _ => 0)))]) iw_MO ty_MO tyok_MO nm_MO rfl rfl (by decide) (gt 753 (by decide +kernel) rfl) rfl rfl rfl rfl rfl (Nat.le_of_ble_eq_true rfl) rfl d_MO_init_85 ?_
  refine g_aload_n C d_MO_init_88 rfl 0 rfl ?_
  refine g_bipush C 16 d_MO_init_89 (by decide) ?_
  refine g_newa C 0 (ty := .int) (a0 := (16, .inl (fun _ => 0))) (gt 141 (by decide +kernel) rfl) rfl rfl (fun _ _ h => h) (fun _ => rfl) (by decide) (by decide) (by decide) (by rw [hRm]; decide) d_MO_init_91 (fun q11 => ?_)
  refine g_w (ws2 := [(h0, .inr (6, [.int 0, .int 0, .int 0, .int 0, .int 0, .int 0, .ref q1, .int 0, .int 0, .int 0, .int 0, .int 0, .ref q2, .int 0, .int 0, .ref q3, .ref q4, .ref q5, .ref q6, .ref q7, .ref q8, .ref q9, .ref q10, .null, .null, .null, .null])), (q1, .inl (X.2.1, 8000, .inl (fun _ => 0))), (q2, .inl (X.2.1, 100, .inl (fun _ => 0))), (q3, .inl (X.2.1, 16, .inl (fun _ => 0))), (q4, .inl (X.2.1, 16, .inl (fun _ => 0))), (q5, .inl (X.2.1, 16, .inl (fun _ => 0))), (q6, .inl (X.2.1, 16, .inl (fun _ => 0))), (q7, .inl (X.2.2.1, 200, .inl (fun _ => 0))), (q8, .inl (X.2.2.1, 200, .inl (fun _ => 0))), (q9, .inl (X.2.1, 40, .inl (fun _ => 0))), (q10, .inl (X.2.1, 200, .inl (fun _ => 0))), (q11, .inl (X.2.1, 16, .inl (fun _ => 0)))]) rfl ?_
  refine g_putF C hI 0 23 (ws2 := [(h0, .inr (6, [.int 0, .int 0, .int 0, .int 0, .int 0, .int 0, .ref q1, .int 0, .int 0, .int 0, .int 0, .int 0, .ref q2, .int 0, .int 0, .ref q3, .ref q4, .ref q5, .ref q6, .ref q7, .ref q8, .ref q9, .ref q10, .ref q11, .null, .null, .null])), (q1, .inl (X.2.1, 8000, .inl (fun _ => 0))), (q2, .inl (X.2.1, 100, .inl (fun _ => 0))), (q3, .inl (X.2.1, 16, .inl (fun _ => 0))), (q4, .inl (X.2.1, 16, .inl (fun _ => 0))), (q5, .inl (X.2.1, 16, .inl (fun _ => 0))), (q6, .inl (X.2.1, 16, .inl (fun _ => 0))), (q7, .inl (X.2.2.1, 200, .inl (fun _ => 0))), (q8, .inl (X.2.2.1, 200, .inl (fun _ => 0))), (q9, .inl (X.2.1, 40, .inl (fun _ => 0))), (q10, .inl (X.2.1, 200, .inl (fun _ => 0))), (q11, .inl (X.2.1, 16, .inl (fun _ => 0)))]) iw_MO ty_MO tyok_MO nm_MO rfl rfl (by decide) (gt 754 (by decide +kernel) rfl) rfl rfl rfl rfl rfl (Nat.le_of_ble_eq_true rfl) rfl d_MO_init_93 ?_
  refine g_aload_n C d_MO_init_96 rfl 0 rfl ?_
  refine g_bipush C 16 d_MO_init_97 (by decide) ?_
  refine g_newa C 0 (ty := .int) (a0 := (16, .inl (fun _ => 0))) (gt 141 (by decide +kernel) rfl) rfl rfl (fun _ _ h => h) (fun _ => rfl) (by decide) (by decide) (by decide) (by rw [hRm]; decide) d_MO_init_99 (fun q12 => ?_)
  refine g_w (ws2 := [(h0, .inr (6, [.int 0, .int 0, .int 0, .int 0, .int 0, .int 0, .ref q1, .int 0, .int 0, .int 0, .int 0, .int 0, .ref q2, .int 0, .int 0, .ref q3, .ref q4, .ref q5, .ref q6, .ref q7, .ref q8, .ref q9, .ref q10, .ref q11, .null, .null, .null])), (q1, .inl (X.2.1, 8000, .inl (fun _ => 0))), (q2, .inl (X.2.1, 100, .inl (fun _ => 0))), (q3, .inl (X.2.1, 16, .inl (fun _ => 0))), (q4, .inl (X.2.1, 16, .inl (fun _ => 0))), (q5, .inl (X.2.1, 16, .inl (fun _ => 0))), (q6, .inl (X.2.1, 16, .inl (fun _ => 0))), (q7, .inl (X.2.2.1, 200, .inl (fun _ => 0))), (q8, .inl (X.2.2.1, 200, .inl (fun _ => 0))), (q9, .inl (X.2.1, 40, .inl (fun _ => 0))), (q10, .inl (X.2.1, 200, .inl (fun _ => 0))), (q11, .inl (X.2.1, 16, .inl (fun _ => 0))), (q12, .inl (X.2.1, 16, .inl (fun _ => 0)))]) rfl ?_
  refine g_putF C hI 0 24 (ws2 := [(h0, .inr (6, [.int 0, .int 0, .int 0, .int 0, .int 0, .int 0, .ref q1, .int 0, .int 0, .int 0, .int 0, .int 0, .ref q2, .int 0, .int 0, .ref q3, .ref q4, .ref q5, .ref q6, .ref q7, .ref q8, .ref q9, .ref q10, .ref q11, .ref q12, .null, .null])), (q1, .inl (X.2.1, 8000, .inl (fun _ => 0))), (q2, .inl (X.2.1, 100, .inl (fun _ => 0))), (q3, .inl (X.2.1, 16, .inl (fun _ => 0))), (q4, .inl (X.2.1, 16, .inl (fun _ => 0))), (q5, .inl (X.2.1, 16, .inl (fun _ => 0))), (q6, .inl (X.2.1, 16, .inl (fun _ => 0))), (q7, .inl (X.2.2.1, 200, .inl (fun _ => 0))), (q8, .inl (X.2.2.1, 200, .inl (fun _ => 0))), (q9, .inl (X.2.1, 40, .inl (fun _ => 0))), (q10, .inl (X.2.1, 200, .inl (fun _ => 0))), (q11, .inl (X.2.1, 16, .inl (fun _ => 0))), (q12, .inl (X.2.1, 16, .inl (fun _ => 0)))]) iw_MO ty_MO tyok_MO nm_MO rfl rfl (by decide) (gt 755 (by decide +kernel) rfl) rfl rfl rfl rfl rfl (Nat.le_of_ble_eq_true rfl) rfl d_MO_init_101 ?_
  refine g_aload_n C d_MO_init_104 rfl 0 rfl ?_
  refine g_bipush C 16 d_MO_init_105 (by decide) ?_
  refine g_newa C 0 (ty := .int) (a0 := (16, .inl (fun _ => 0))) (gt 141 (by decide +kernel) rfl) rfl rfl (fun _ _ h => h) (fun _ => rfl) (by decide) (by decide) (by decide) (by rw [hRm]; decide) d_MO_init_107 (fun q13 => ?_)
  refine g_w (ws2 := [(h0, .inr (6, [.int 0, .int 0, .int 0, .int 0, .int 0, .int 0, .ref q1, .int 0, .int 0, .int 0, .int 0, .int 0, .ref q2, .int 0, .int 0, .ref q3, .ref q4, .ref q5, .ref q6, .ref q7, .ref q8, .ref q9, .ref q10, .ref q11, .ref q12, .null, .null])), (q1, .inl (X.2.1, 8000, .inl (fun _ => 0))), (q2, .inl (X.2.1, 100, .inl (fun _ => 0))), (q3, .inl (X.2.1, 16, .inl (fun _ => 0))), (q4, .inl (X.2.1, 16, .inl (fun _ => 0))), (q5, .inl (X.2.1, 16, .inl (fun _ => 0))), (q6, .inl (X.2.1, 16, .inl (fun _ => 0))), (q7, .inl (X.2.2.1, 200, .inl (fun _ => 0))), (q8, .inl (X.2.2.1, 200, .inl (fun _ => 0))), (q9, .inl (X.2.1, 40, .inl (fun _ => 0))), (q10, .inl (X.2.1, 200, .inl (fun _ => 0))), (q11, .inl (X.2.1, 16, .inl (fun _ => 0))), (q12, .inl (X.2.1, 16, .inl (fun _ => 0))), (q13, .inl (X.2.1, 16, .inl (fun _ => 0)))]) rfl ?_
  refine g_putF C hI 0 25 (ws2 := [(h0, .inr (6, [.int 0, .int 0, .int 0, .int 0, .int 0, .int 0, .ref q1, .int 0, .int 0, .int 0, .int 0, .int 0, .ref q2, .int 0, .int 0, .ref q3, .ref q4, .ref q5, .ref q6, .ref q7, .ref q8, .ref q9, .ref q10, .ref q11, .ref q12, .ref q13, .null])), (q1, .inl (X.2.1, 8000, .inl (fun _ => 0))), (q2, .inl (X.2.1, 100, .inl (fun _ => 0))), (q3, .inl (X.2.1, 16, .inl (fun _ => 0))), (q4, .inl (X.2.1, 16, .inl (fun _ => 0))), (q5, .inl (X.2.1, 16, .inl (fun _ => 0))), (q6, .inl (X.2.1, 16, .inl (fun _ => 0))), (q7, .inl (X.2.2.1, 200, .inl (fun _ => 0))), (q8, .inl (X.2.2.1, 200, .inl (fun _ => 0))), (q9, .inl (X.2.1, 40, .inl (fun _ => 0))), (q10, .inl (X.2.1, 200, .inl (fun _ => 0))), (q11, .inl (X.2.1, 16, .inl (fun _ => 0))), (q12, .inl (X.2.1, 16, .inl (fun _ => 0))), (q13, .inl (X.2.1, 16, .inl (fun _ => 0)))]) iw_MO ty_MO tyok_MO nm_MO rfl rfl (by decide) (gt 756 (by decide +kernel) rfl) rfl rfl rfl rfl rfl (Nat.le_of_ble_eq_true rfl) rfl d_MO_init_109 ?_
  refine g_aload_n C d_MO_init_112 rfl 0 rfl ?_
  refine g_bipush C 16 d_MO_init_113 (by decide) ?_
  refine g_newa C 1 (ty := .boolean) (a0 := (16, .inl (fun _ => 0))) (gt 203 (by decide +kernel) rfl) rfl rfl (fun _ _ h => h) (fun _ => rfl) (by decide) (by decide) (by decide) (by rw [hRm]; decide) d_MO_init_115 (fun q14 => ?_)
  refine g_w (ws2 := [(h0, .inr (6, [.int 0, .int 0, .int 0, .int 0, .int 0, .int 0, .ref q1, .int 0, .int 0, .int 0, .int 0, .int 0, .ref q2, .int 0, .int 0, .ref q3, .ref q4, .ref q5, .ref q6, .ref q7, .ref q8, .ref q9, .ref q10, .ref q11, .ref q12, .ref q13, .null])), (q1, .inl (X.2.1, 8000, .inl (fun _ => 0))), (q2, .inl (X.2.1, 100, .inl (fun _ => 0))), (q3, .inl (X.2.1, 16, .inl (fun _ => 0))), (q4, .inl (X.2.1, 16, .inl (fun _ => 0))), (q5, .inl (X.2.1, 16, .inl (fun _ => 0))), (q6, .inl (X.2.1, 16, .inl (fun _ => 0))), (q7, .inl (X.2.2.1, 200, .inl (fun _ => 0))), (q8, .inl (X.2.2.1, 200, .inl (fun _ => 0))), (q9, .inl (X.2.1, 40, .inl (fun _ => 0))), (q10, .inl (X.2.1, 200, .inl (fun _ => 0))), (q11, .inl (X.2.1, 16, .inl (fun _ => 0))), (q12, .inl (X.2.1, 16, .inl (fun _ => 0))), (q13, .inl (X.2.1, 16, .inl (fun _ => 0))), (q14, .inl (X.2.2.1, 16, .inl (fun _ => 0)))]) rfl ?_
  refine g_putF C hI 0 26 (ws2 := [(h0, .inr (6, [.int 0, .int 0, .int 0, .int 0, .int 0, .int 0, .ref q1, .int 0, .int 0, .int 0, .int 0, .int 0, .ref q2, .int 0, .int 0, .ref q3, .ref q4, .ref q5, .ref q6, .ref q7, .ref q8, .ref q9, .ref q10, .ref q11, .ref q12, .ref q13, .ref q14])), (q1, .inl (X.2.1, 8000, .inl (fun _ => 0))), (q2, .inl (X.2.1, 100, .inl (fun _ => 0))), (q3, .inl (X.2.1, 16, .inl (fun _ => 0))), (q4, .inl (X.2.1, 16, .inl (fun _ => 0))), (q5, .inl (X.2.1, 16, .inl (fun _ => 0))), (q6, .inl (X.2.1, 16, .inl (fun _ => 0))), (q7, .inl (X.2.2.1, 200, .inl (fun _ => 0))), (q8, .inl (X.2.2.1, 200, .inl (fun _ => 0))), (q9, .inl (X.2.1, 40, .inl (fun _ => 0))), (q10, .inl (X.2.1, 200, .inl (fun _ => 0))), (q11, .inl (X.2.1, 16, .inl (fun _ => 0))), (q12, .inl (X.2.1, 16, .inl (fun _ => 0))), (q13, .inl (X.2.1, 16, .inl (fun _ => 0))), (q14, .inl (X.2.2.1, 16, .inl (fun _ => 0)))]) iw_MO ty_MO tyok_MO nm_MO rfl rfl (by decide) (gt 757 (by decide +kernel) rfl) rfl rfl rfl rfl rfl (Nat.le_of_ble_eq_true rfl) rfl d_MO_init_117 ?_
  exact g_vretx r (by decide) (by decide) d_MO_init_120 ⟨rfl, q1, q2, q3, q4, q5, q6, q7, q8, q9, q10, q11, q12, q13, q14, rfl⟩
