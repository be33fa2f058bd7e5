def rm_Runs_runsAtLevelOf : Room := { frames := 0, cells := 0, slots := 0, locals := 0 }
def wl_Runs_runsAtLevelOf_4 (Q : Int32 → gS → Prop) (K : Int32 → Int32 → gS → Prop) (x1 : Int32) : Nat → Int32 → Int32 → gS → Prop
  | 0, _, _, _ => False
  | n + 1, x2, x3, s => (((s.1 9) ≤ x3 → K x2 x3 s) ∧ (¬ (s.1 9) ≤ x3 → vp_in x3 9 ∧ (vp_in x1 9 ∧ (((¬ (s.2 6 x3.toNatClampNeg) = (s.2 6 x1.toNatClampNeg) → ∀ v5 : Int32, v5 = x3 + 1 → wl_Runs_runsAtLevelOf_4 Q K x1 n x2 v5 s) ∧ ((s.2 6 x3.toNatClampNeg) = (s.2 6 x1.toNatClampNeg) → ∀ v6 : Int32, v6 = x2 + 1 → ∀ v7 : Int32, v7 = x3 + 1 → wl_Runs_runsAtLevelOf_4 Q K x1 n v6 v7 s))))))
set_option maxHeartbeats 4000000 in
set_option maxRecDepth 100000 in
theorem w_Runs_runsAtLevelOf_4 (X : gX) (ad : Nat → Nat) (Q : Int32 → gS → Prop) (K : Int32 → Int32 → gS → Prop) (x1 : Int32) (E : gE) (C : gC X E b_RU_runsAtLevelOf 4 R_RU) (hRm : gRm E = rm_Runs_runsAtLevelOf) (r : gR X E b_RU_runsAtLevelOf (some .int) (gBi (wC ad X) Q)) (hK : ∀ (x2 : Int32) (x3 : Int32) (s : gS), K x2 x3 s → gW X E 0 0 (wC ad X s) [(0, .ref (ad 6)), (1, .int x1), (2, .int x2), (3, .int x3)] 36 []) : ∀ (n : Nat) (x2 : Int32) (x3 : Int32) (s : gS), wl_Runs_runsAtLevelOf_4 Q K x1 n x2 x3 s → gW X E 0 0 (wC ad X s) [(0, .ref (ad 6)), (1, .int x1), (2, .int x2), (3, .int x3)] 4 [] := by
  intro n
  induction n with
  | zero => intro x2 x3 s h; exact False.elim h
  | succ n ih =>
    intro x2 x3 s h
    have h : (((s.1 9) ≤ x3 → K x2 x3 s) ∧ (¬ (s.1 9) ≤ x3 → vp_in x3 9 ∧ (vp_in x1 9 ∧ (((¬ (s.2 6 x3.toNatClampNeg) = (s.2 6 x1.toNatClampNeg) → ∀ v5 : Int32, v5 = x3 + 1 → wl_Runs_runsAtLevelOf_4 Q K x1 n x2 v5 s) ∧ ((s.2 6 x3.toNatClampNeg) = (s.2 6 x1.toNatClampNeg) → ∀ v6 : Int32, v6 = x2 + 1 → ∀ v7 : Int32, v7 = x3 + 1 → wl_Runs_runsAtLevelOf_4 Q K x1 n v6 v7 s)))))) := h
    refine g_iload_n C d_RU_runsAtLevelOf_4 rfl 3 rfl ?_
    refine g_aload_n C d_RU_runsAtLevelOf_5 rfl 0 rfl ?_
    refine g_get C (v := .int (s.1 9)) 6 7 iw_RU rfl rfl (by decide) (gt 183 (by decide +kernel) rfl) rfl rfl d_RU_runsAtLevelOf_6 ?_
    refine g_icmp_ge C 36 d_RU_runsAtLevelOf_9 (by decide) (fun c1 => ?_) (fun c1 => ?_)
    · have h := h.1 c1
      exact hK x2 x3 s h
    · have h := h.2 c1
      refine g_aload_n C d_RU_runsAtLevelOf_12 rfl 0 rfl ?_
      refine g_get C (v := .ref (ad 10)) 6 4 iw_RU rfl rfl (by decide) (gt 178 (by decide +kernel) rfl) rfl rfl d_RU_runsAtLevelOf_13 ?_
      refine g_iload_n C d_RU_runsAtLevelOf_16 rfl 3 rfl ?_
      obtain ⟨i2, h⟩ := h
      refine g_iald C 10 0 rfl rfl i2 d_RU_runsAtLevelOf_17 ?_
      refine g_aload_n C d_RU_runsAtLevelOf_18 rfl 0 rfl ?_
      refine g_get C (v := .ref (ad 10)) 6 4 iw_RU rfl rfl (by decide) (gt 178 (by decide +kernel) rfl) rfl rfl d_RU_runsAtLevelOf_19 ?_
      refine g_iload_n C d_RU_runsAtLevelOf_22 rfl 1 rfl ?_
      obtain ⟨i3, h⟩ := h
      refine g_iald C 10 0 rfl rfl i3 d_RU_runsAtLevelOf_23 ?_
      refine g_icmp_ne C 30 d_RU_runsAtLevelOf_24 (by decide) (fun c4 => ?_) (fun c4 => ?_)
      · have h := h.1 c4
        obtain ⟨v5, e_v5⟩ : ∃ y : Int32, y = x3 + 1 := ⟨_, rfl⟩
        have h := h v5 e_v5
        refine g_iinc C (v := v5) (lv2 := [(0, .ref (ad 6)), (1, .int x1), (2, .int x2), (3, .int v5)]) d_RU_runsAtLevelOf_30 3 rfl (by rw [e_v5]; rfl) (by decide) rfl ?_
        refine g_goto C 4 d_RU_runsAtLevelOf_33 (by decide) ?_
        exact ih x2 v5 s h
      · have h := h.2 c4
        obtain ⟨v6, e_v6⟩ : ∃ y : Int32, y = x2 + 1 := ⟨_, rfl⟩
        have h := h v6 e_v6
        refine g_iinc C (v := v6) (lv2 := [(0, .ref (ad 6)), (1, .int x1), (2, .int v6), (3, .int x3)]) d_RU_runsAtLevelOf_27 2 rfl (by rw [e_v6]; rfl) (by decide) rfl ?_
        obtain ⟨v7, e_v7⟩ : ∃ y : Int32, y = x3 + 1 := ⟨_, rfl⟩
        have h := h v7 e_v7
        refine g_iinc C (v := v7) (lv2 := [(0, .ref (ad 6)), (1, .int x1), (2, .int v6), (3, .int v7)]) d_RU_runsAtLevelOf_30 3 rfl (by rw [e_v7]; rfl) (by decide) rfl ?_
        refine g_goto C 4 d_RU_runsAtLevelOf_33 (by decide) ?_
        exact ih v6 v7 s h
def wp_Runs_runsAtLevelOf (a1 : Int32) (s : gS) (Q : Int32 → gS → Prop) : Prop := ∃ n8 : Nat, wl_Runs_runsAtLevelOf_4 Q (fun v10 v11 s9 => Q v10 s9) a1 n8 0 0 s
set_option maxHeartbeats 4000000 in
set_option maxRecDepth 100000 in
theorem w_Runs_runsAtLevelOf (X : gX) (ad : Nat → Nat) (a1 : Int32) (s : gS) (Q : Int32 → gS → Prop) (h : wp_Runs_runsAtLevelOf a1 s Q) (E : gE) (C : gC X E b_RU_runsAtLevelOf 4 R_RU) (hRm : gRm E = rm_Runs_runsAtLevelOf) (r : gR X E b_RU_runsAtLevelOf (some .int) (gBi (wC ad X) Q)) : gW X E 0 0 (wC ad X s) [(0, .ref (ad 6)), (1, .int a1)] 0 [] := by
  have h : ∃ n8 : Nat, wl_Runs_runsAtLevelOf_4 Q (fun v10 v11 s9 => Q v10 s9) a1 n8 0 0 s := h
  refine g_iconst C 0 d_RU_runsAtLevelOf_0 (by decide) ?_
  refine g_istore_n C (lv2 := [(0, .ref (ad 6)), (1, .int a1), (2, .int 0)]) d_RU_runsAtLevelOf_1 rfl (by decide) rfl ?_
  refine g_iconst C 0 d_RU_runsAtLevelOf_2 (by decide) ?_
  refine g_istore_n C (lv2 := [(0, .ref (ad 6)), (1, .int a1), (2, .int 0), (3, .int 0)]) d_RU_runsAtLevelOf_3 rfl (by decide) rfl ?_
  obtain ⟨n8, h⟩ := h
  refine w_Runs_runsAtLevelOf_4 X ad Q (_) a1 E C hRm r ?_ n8 0 0 s h
  intro v10 v11 s9 h
  refine g_iload_n C d_RU_runsAtLevelOf_36 rfl 2 rfl ?_
  exact g_iret r rfl d_RU_runsAtLevelOf_37 (gBi_mk h)
theorem m_Runs_runsAtLevelOf (X : gX) (ad : Nat → Nat) (a1 : Int32) (s : gS) (Q : Int32 → gS → Prop) (h : wp_Runs_runsAtLevelOf a1 s Q) (l : Launch) : gM l X y_RU_runsAtLevelOf b_RU_runsAtLevelOf 4 (some .int) rm_Runs_runsAtLevelOf [.ref (ad 6), .int a1] (wC ad X s) (gBi (wC ad X) Q) :=
  gM_of (by decide +kernel) rfl (Nat.le_of_ble_eq_true rfl) rfl (fun E C hRm r => w_Runs_runsAtLevelOf X ad a1 s Q h E C hRm r)
def rm_Runs_crowdedAt : Room := { frames := 1, cells := 0, slots := 0, locals := 23 }
def wl_Runs_crowdedAt_4 (Q : Int32 → gS → Prop) (K : Int32 → Int32 → gS → Prop) (x1 : Int32) : Nat → Int32 → Int32 → gS → Prop
  | 0, _, _, _ => False
  | n + 1, x2, x3, s => (((s.1 9) ≤ x3 → K x2 x3 s) ∧ (¬ (s.1 9) ≤ x3 → wp_Runs_runsAtLevelOf x3 s (fun r3 s2 => ((r3 < x1 → ∀ v5 : Int32, v5 = x3 + 1 → wl_Runs_crowdedAt_4 Q K x1 n x2 v5 s2) ∧ (¬ r3 < x1 → ((x2 < 0 → ∀ v7 : Int32, v7 = x3 + 1 → wl_Runs_crowdedAt_4 Q K x1 n x3 v7 s2) ∧ (¬ x2 < 0 → vp_in x3 9 ∧ (vp_in x2 9 ∧ ((((s2.2 6 x2.toNatClampNeg) ≤ (s2.2 6 x3.toNatClampNeg) → ∀ v11 : Int32, v11 = x3 + 1 → wl_Runs_crowdedAt_4 Q K x1 n x2 v11 s2) ∧ (¬ (s2.2 6 x2.toNatClampNeg) ≤ (s2.2 6 x3.toNatClampNeg) → ∀ v12 : Int32, v12 = x3 + 1 → wl_Runs_crowdedAt_4 Q K x1 n x3 v12 s2)))))))))))
set_option maxHeartbeats 4000000 in
set_option maxRecDepth 100000 in
theorem w_Runs_crowdedAt_4 (X : gX) (ad : Nat → Nat) (Q : Int32 → gS → Prop) (K : Int32 → Int32 → gS → Prop) (x1 : Int32) (E : gE) (C : gC X E b_RU_crowdedAt 4 R_RU) (hRm : gRm E = rm_Runs_crowdedAt) (r : gR X E b_RU_crowdedAt (some .int) (gBi (wC ad X) Q)) (hK : ∀ (x2 : Int32) (x3 : Int32) (s : gS), K x2 x3 s → gW X E 0 0 (wC ad X s) [(0, .ref (ad 6)), (1, .int x1), (2, .int x2), (3, .int x3)] 48 []) : ∀ (n : Nat) (x2 : Int32) (x3 : Int32) (s : gS), wl_Runs_crowdedAt_4 Q K x1 n x2 x3 s → gW X E 0 0 (wC ad X s) [(0, .ref (ad 6)), (1, .int x1), (2, .int x2), (3, .int x3)] 4 [] := by
  intro n
  induction n with
  | zero => intro x2 x3 s h; exact False.elim h
  | succ n ih =>
    intro x2 x3 s h
    have h : (((s.1 9) ≤ x3 → K x2 x3 s) ∧ (¬ (s.1 9) ≤ x3 → wp_Runs_runsAtLevelOf x3 s (fun r3 s2 => ((r3 < x1 → ∀ v5 : Int32, v5 = x3 + 1 → wl_Runs_crowdedAt_4 Q K x1 n x2 v5 s2) ∧ (¬ r3 < x1 → ((x2 < 0 → ∀ v7 : Int32, v7 = x3 + 1 → wl_Runs_crowdedAt_4 Q K x1 n x3 v7 s2) ∧ (¬ x2 < 0 → vp_in x3 9 ∧ (vp_in x2 9 ∧ ((((s2.2 6 x2.toNatClampNeg) ≤ (s2.2 6 x3.toNatClampNeg) → ∀ v11 : Int32, v11 = x3 + 1 → wl_Runs_crowdedAt_4 Q K x1 n x2 v11 s2) ∧ (¬ (s2.2 6 x2.toNatClampNeg) ≤ (s2.2 6 x3.toNatClampNeg) → ∀ v12 : Int32, v12 = x3 + 1 → wl_Runs_crowdedAt_4 Q K x1 n x3 v12 s2))))))))))) := h
    refine g_iload_n C d_RU_crowdedAt_4 rfl 3 rfl ?_
    refine g_aload_n C d_RU_crowdedAt_5 rfl 0 rfl ?_
    refine g_get C (v := .int (s.1 9)) 6 7 iw_RU rfl rfl (by decide) (gt 183 (by decide +kernel) rfl) rfl rfl d_RU_crowdedAt_6 ?_
    refine g_icmp_ge C 48 d_RU_crowdedAt_9 (by decide) (fun c1 => ?_) (fun c1 => ?_)
    · have h := h.1 c1
      exact hK x2 x3 s h
    · have h := h.2 c1
      refine g_aload_n C d_RU_crowdedAt_12 rfl 0 rfl ?_
      refine g_iload_n C d_RU_crowdedAt_13 rfl 3 rfl ?_
      refine g_callV C (rest := []) 6 (fun l => m_Runs_runsAtLevelOf X ad x3 s _ h l) rfl rfl (gt 546 (by decide +kernel) rfl) cb_RU_runsAtLevelOf ⟨rfl, rfl⟩ (by rw [hRm]; decide) ⟨Nat.zero_le _, Nat.zero_le _⟩ rfl rfl (Nat.le_of_ble_eq_true rfl) d_RU_crowdedAt_14 (gki (fun r3 s2 h => ?_))
      refine g_iload_n C d_RU_crowdedAt_17 rfl 1 rfl ?_
      refine g_icmp_lt C 42 d_RU_crowdedAt_18 (by decide) (fun c4 => ?_) (fun c4 => ?_)
      · have h := h.1 c4
        obtain ⟨v5, e_v5⟩ : ∃ y : Int32, y = x3 + 1 := ⟨_, rfl⟩
        have h := h v5 e_v5
        refine g_iinc C (v := v5) (lv2 := [(0, .ref (ad 6)), (1, .int x1), (2, .int x2), (3, .int v5)]) d_RU_crowdedAt_42 3 rfl (by rw [e_v5]; rfl) (by decide) rfl ?_
        refine g_goto C 4 d_RU_crowdedAt_45 (by decide) ?_
        exact ih x2 v5 s2 h
      · have h := h.2 c4
        refine g_iload_n C d_RU_crowdedAt_21 rfl 2 rfl ?_
        refine g_if_lt C 40 d_RU_crowdedAt_22 (by decide) (fun c6 => ?_) (fun c6 => ?_)
        · have h := h.1 c6
          refine g_iload_n C d_RU_crowdedAt_40 rfl 3 rfl ?_
          refine g_istore_n C (lv2 := [(0, .ref (ad 6)), (1, .int x1), (2, .int x3), (3, .int x3)]) d_RU_crowdedAt_41 rfl (by decide) rfl ?_
          obtain ⟨v7, e_v7⟩ : ∃ y : Int32, y = x3 + 1 := ⟨_, rfl⟩
          have h := h v7 e_v7
          refine g_iinc C (v := v7) (lv2 := [(0, .ref (ad 6)), (1, .int x1), (2, .int x3), (3, .int v7)]) d_RU_crowdedAt_42 3 rfl (by rw [e_v7]; rfl) (by decide) rfl ?_
          refine g_goto C 4 d_RU_crowdedAt_45 (by decide) ?_
          exact ih x3 v7 s2 h
        · have h := h.2 c6
          refine g_aload_n C d_RU_crowdedAt_25 rfl 0 rfl ?_
          refine g_get C (v := .ref (ad 10)) 6 4 iw_RU rfl rfl (by decide) (gt 178 (by decide +kernel) rfl) rfl rfl d_RU_crowdedAt_26 ?_
          refine g_iload_n C d_RU_crowdedAt_29 rfl 3 rfl ?_
          obtain ⟨i8, h⟩ := h
          refine g_iald C 10 0 rfl rfl i8 d_RU_crowdedAt_30 ?_
          refine g_aload_n C d_RU_crowdedAt_31 rfl 0 rfl ?_
          refine g_get C (v := .ref (ad 10)) 6 4 iw_RU rfl rfl (by decide) (gt 178 (by decide +kernel) rfl) rfl rfl d_RU_crowdedAt_32 ?_
          refine g_iload_n C d_RU_crowdedAt_35 rfl 2 rfl ?_
          obtain ⟨i9, h⟩ := h
          refine g_iald C 10 0 rfl rfl i9 d_RU_crowdedAt_36 ?_
          refine g_icmp_ge C 42 d_RU_crowdedAt_37 (by decide) (fun c10 => ?_) (fun c10 => ?_)
          · have h := h.1 c10
            obtain ⟨v11, e_v11⟩ : ∃ y : Int32, y = x3 + 1 := ⟨_, rfl⟩
            have h := h v11 e_v11
            refine g_iinc C (v := v11) (lv2 := [(0, .ref (ad 6)), (1, .int x1), (2, .int x2), (3, .int v11)]) d_RU_crowdedAt_42 3 rfl (by rw [e_v11]; rfl) (by decide) rfl ?_
            refine g_goto C 4 d_RU_crowdedAt_45 (by decide) ?_
            exact ih x2 v11 s2 h
          · have h := h.2 c10
            refine g_iload_n C d_RU_crowdedAt_40 rfl 3 rfl ?_
            refine g_istore_n C (lv2 := [(0, .ref (ad 6)), (1, .int x1), (2, .int x3), (3, .int x3)]) d_RU_crowdedAt_41 rfl (by decide) rfl ?_
            obtain ⟨v12, e_v12⟩ : ∃ y : Int32, y = x3 + 1 := ⟨_, rfl⟩
            have h := h v12 e_v12
            refine g_iinc C (v := v12) (lv2 := [(0, .ref (ad 6)), (1, .int x1), (2, .int x3), (3, .int v12)]) d_RU_crowdedAt_42 3 rfl (by rw [e_v12]; rfl) (by decide) rfl ?_
            refine g_goto C 4 d_RU_crowdedAt_45 (by decide) ?_
            exact ih x3 v12 s2 h
def wp_Runs_crowdedAt (a1 : Int32) (s : gS) (Q : Int32 → gS → Prop) : Prop := ∃ n13 : Nat, wl_Runs_crowdedAt_4 Q (fun v15 v16 s14 => Q v15 s14) a1 n13 (-1) 0 s
set_option maxHeartbeats 4000000 in
set_option maxRecDepth 100000 in
theorem w_Runs_crowdedAt (X : gX) (ad : Nat → Nat) (a1 : Int32) (s : gS) (Q : Int32 → gS → Prop) (h : wp_Runs_crowdedAt a1 s Q) (E : gE) (C : gC X E b_RU_crowdedAt 4 R_RU) (hRm : gRm E = rm_Runs_crowdedAt) (r : gR X E b_RU_crowdedAt (some .int) (gBi (wC ad X) Q)) : gW X E 0 0 (wC ad X s) [(0, .ref (ad 6)), (1, .int a1)] 0 [] := by
  have h : ∃ n13 : Nat, wl_Runs_crowdedAt_4 Q (fun v15 v16 s14 => Q v15 s14) a1 n13 (-1) 0 s := h
  refine g_iconst C (-1) d_RU_crowdedAt_0 (by decide) ?_
  refine g_istore_n C (lv2 := [(0, .ref (ad 6)), (1, .int a1), (2, .int (-1))]) d_RU_crowdedAt_1 rfl (by decide) rfl ?_
  refine g_iconst C 0 d_RU_crowdedAt_2 (by decide) ?_
  refine g_istore_n C (lv2 := [(0, .ref (ad 6)), (1, .int a1), (2, .int (-1)), (3, .int 0)]) d_RU_crowdedAt_3 rfl (by decide) rfl ?_
  obtain ⟨n13, h⟩ := h
  refine w_Runs_crowdedAt_4 X ad Q (_) a1 E C hRm r ?_ n13 (-1) 0 s h
  intro v15 v16 s14 h
  refine g_iload_n C d_RU_crowdedAt_48 rfl 2 rfl ?_
  exact g_iret r rfl d_RU_crowdedAt_49 (gBi_mk h)
theorem m_Runs_crowdedAt (X : gX) (ad : Nat → Nat) (a1 : Int32) (s : gS) (Q : Int32 → gS → Prop) (h : wp_Runs_crowdedAt a1 s Q) (l : Launch) : gM l X y_RU_crowdedAt b_RU_crowdedAt 4 (some .int) rm_Runs_crowdedAt [.ref (ad 6), .int a1] (wC ad X s) (gBi (wC ad X) Q) :=
  gM_of (by decide +kernel) rfl (Nat.le_of_ble_eq_true rfl) rfl (fun E C hRm r => w_Runs_crowdedAt X ad a1 s Q h E C hRm r)
def rm_Runs_chooseLevel : Room := { frames := 0, cells := 0, slots := 0, locals := 0 }
def wl_Runs_chooseLevel_2 (Q : gS → Prop) (K : Int32 → gS → Prop) (x1 : Int32) : Nat → Int32 → gS → Prop
  | 0, _, _ => False
  | n + 1, x2, s => (((s.1 9) ≤ x2 → K x2 s) ∧ (¬ (s.1 9) ≤ x2 → vp_in x2 9 ∧ (((¬ (s.2 6 x2.toNatClampNeg) = x1 → vp_in x2 9 ∧ (∀ v5 : Int32, v5 = x2 + 1 → wl_Runs_chooseLevel_2 Q K x1 n v5 (s.1, ua s.2 8 (upd (s.2 8) x2.toNatClampNeg (vp_nar .boolean 0))))) ∧ ((s.2 6 x2.toNatClampNeg) = x1 → vp_in x2 9 ∧ (∀ v7 : Int32, v7 = x2 + 1 → wl_Runs_chooseLevel_2 Q K x1 n v7 (s.1, ua s.2 8 (upd (s.2 8) x2.toNatClampNeg (vp_nar .boolean 1)))))))))
set_option maxHeartbeats 4000000 in
set_option maxRecDepth 100000 in
theorem w_Runs_chooseLevel_2 (X : gX) (ad : Nat → Nat) (Q : gS → Prop) (K : Int32 → gS → Prop) (x1 : Int32) (E : gE) (C : gC X E b_RU_chooseLevel 3 R_RU) (hRm : gRm E = rm_Runs_chooseLevel) (r : gR X E b_RU_chooseLevel none (gBv (wC ad X) Q)) (hK : ∀ (x2 : Int32) (s : gS), K x2 s → gW X E 0 0 (wC ad X s) [(0, .ref (ad 6)), (1, .int x1), (2, .int x2)] 37 []) : ∀ (n : Nat) (x2 : Int32) (s : gS), wl_Runs_chooseLevel_2 Q K x1 n x2 s → gW X E 0 0 (wC ad X s) [(0, .ref (ad 6)), (1, .int x1), (2, .int x2)] 2 [] := by
  intro n
  induction n with
  | zero => intro x2 s h; exact False.elim h
  | succ n ih =>
    intro x2 s h
    have h : (((s.1 9) ≤ x2 → K x2 s) ∧ (¬ (s.1 9) ≤ x2 → vp_in x2 9 ∧ (((¬ (s.2 6 x2.toNatClampNeg) = x1 → vp_in x2 9 ∧ (∀ v5 : Int32, v5 = x2 + 1 → wl_Runs_chooseLevel_2 Q K x1 n v5 (s.1, ua s.2 8 (upd (s.2 8) x2.toNatClampNeg (vp_nar .boolean 0))))) ∧ ((s.2 6 x2.toNatClampNeg) = x1 → vp_in x2 9 ∧ (∀ v7 : Int32, v7 = x2 + 1 → wl_Runs_chooseLevel_2 Q K x1 n v7 (s.1, ua s.2 8 (upd (s.2 8) x2.toNatClampNeg (vp_nar .boolean 1))))))))) := h
    refine g_iload_n C d_RU_chooseLevel_2 rfl 2 rfl ?_
    refine g_aload_n C d_RU_chooseLevel_3 rfl 0 rfl ?_
    refine g_get C (v := .int (s.1 9)) 6 7 iw_RU rfl rfl (by decide) (gt 183 (by decide +kernel) rfl) rfl rfl d_RU_chooseLevel_4 ?_
    refine g_icmp_ge C 37 d_RU_chooseLevel_7 (by decide) (fun c1 => ?_) (fun c1 => ?_)
    · have h := h.1 c1
      exact hK x2 s h
    · have h := h.2 c1
      refine g_aload_n C d_RU_chooseLevel_10 rfl 0 rfl ?_
      refine g_get C (v := .ref (ad 12)) 6 6 iw_RU rfl rfl (by decide) (gt 182 (by decide +kernel) rfl) rfl rfl d_RU_chooseLevel_11 ?_
      refine g_iload_n C d_RU_chooseLevel_14 rfl 2 rfl ?_
      refine g_aload_n C d_RU_chooseLevel_15 rfl 0 rfl ?_
      refine g_get C (v := .ref (ad 10)) 6 4 iw_RU rfl rfl (by decide) (gt 178 (by decide +kernel) rfl) rfl rfl d_RU_chooseLevel_16 ?_
      refine g_iload_n C d_RU_chooseLevel_19 rfl 2 rfl ?_
      obtain ⟨i2, h⟩ := h
      refine g_iald C 10 0 rfl rfl i2 d_RU_chooseLevel_20 ?_
      refine g_iload_n C d_RU_chooseLevel_21 rfl 1 rfl ?_
      refine g_icmp_ne C 29 d_RU_chooseLevel_22 (by decide) (fun c3 => ?_) (fun c3 => ?_)
      · have h := h.1 c3
        refine g_iconst C 0 d_RU_chooseLevel_29 (by decide) ?_
        obtain ⟨i4, h⟩ := h
        refine g_zast C 12 1 (ws2 := wC ad X (s.1, ua s.2 8 (upd (s.2 8) x2.toNatClampNeg (vp_nar .boolean 0)))) rfl rfl i4 rfl d_RU_chooseLevel_30 ?_
        obtain ⟨v5, e_v5⟩ : ∃ y : Int32, y = x2 + 1 := ⟨_, rfl⟩
        have h := h v5 e_v5
        refine g_iinc C (v := v5) (lv2 := [(0, .ref (ad 6)), (1, .int x1), (2, .int v5)]) d_RU_chooseLevel_31 2 rfl (by rw [e_v5]; rfl) (by decide) rfl ?_
        refine g_goto C 2 d_RU_chooseLevel_34 (by decide) ?_
        exact ih v5 (s.1, ua s.2 8 (upd (s.2 8) x2.toNatClampNeg (vp_nar .boolean 0))) h
      · have h := h.2 c3
        refine g_iconst C 1 d_RU_chooseLevel_25 (by decide) ?_
        refine g_goto C 30 d_RU_chooseLevel_26 (by decide) ?_
        obtain ⟨i6, h⟩ := h
        refine g_zast C 12 1 (ws2 := wC ad X (s.1, ua s.2 8 (upd (s.2 8) x2.toNatClampNeg (vp_nar .boolean 1)))) rfl rfl i6 rfl d_RU_chooseLevel_30 ?_
        obtain ⟨v7, e_v7⟩ : ∃ y : Int32, y = x2 + 1 := ⟨_, rfl⟩
        have h := h v7 e_v7
        refine g_iinc C (v := v7) (lv2 := [(0, .ref (ad 6)), (1, .int x1), (2, .int v7)]) d_RU_chooseLevel_31 2 rfl (by rw [e_v7]; rfl) (by decide) rfl ?_
        refine g_goto C 2 d_RU_chooseLevel_34 (by decide) ?_
        exact ih v7 (s.1, ua s.2 8 (upd (s.2 8) x2.toNatClampNeg (vp_nar .boolean 1))) h
def wp_Runs_chooseLevel (a1 : Int32) (s : gS) (Q : gS → Prop) : Prop := ∃ n8 : Nat, wl_Runs_chooseLevel_2 Q (fun v10 s9 => Q s9) a1 n8 0 s
set_option maxHeartbeats 4000000 in
set_option maxRecDepth 100000 in
theorem w_Runs_chooseLevel (X : gX) (ad : Nat → Nat) (a1 : Int32) (s : gS) (Q : gS → Prop) (h : wp_Runs_chooseLevel a1 s Q) (E : gE) (C : gC X E b_RU_chooseLevel 3 R_RU) (hRm : gRm E = rm_Runs_chooseLevel) (r : gR X E b_RU_chooseLevel none (gBv (wC ad X) Q)) : gW X E 0 0 (wC ad X s) [(0, .ref (ad 6)), (1, .int a1)] 0 [] := by
  have h : ∃ n8 : Nat, wl_Runs_chooseLevel_2 Q (fun v10 s9 => Q s9) a1 n8 0 s := h
  refine g_iconst C 0 d_RU_chooseLevel_0 (by decide) ?_
  refine g_istore_n C (lv2 := [(0, .ref (ad 6)), (1, .int a1), (2, .int 0)]) d_RU_chooseLevel_1 rfl (by decide) rfl ?_
  obtain ⟨n8, h⟩ := h
  refine w_Runs_chooseLevel_2 X ad Q (_) a1 E C hRm r ?_ n8 0 s h
  intro v10 s9 h
  exact g_vret r d_RU_chooseLevel_37 (gBv_mk h)
theorem m_Runs_chooseLevel (X : gX) (ad : Nat → Nat) (a1 : Int32) (s : gS) (Q : gS → Prop) (h : wp_Runs_chooseLevel a1 s Q) (l : Launch) : gM l X y_RU_chooseLevel b_RU_chooseLevel 3 none rm_Runs_chooseLevel [.ref (ad 6), .int a1] (wC ad X s) (gBv (wC ad X) Q) :=
  gM_of (by decide +kernel) rfl (Nat.le_of_ble_eq_true rfl) rfl (fun E C hRm r => w_Runs_chooseLevel X ad a1 s Q h E C hRm r)
def rm_Runs_howMany : Room := { frames := 0, cells := 0, slots := 0, locals := 0 }
def wl_Runs_howMany_4 (Q : Int32 → gS → Prop) (K : Int32 → Int32 → gS → Prop) : Nat → Int32 → Int32 → gS → Prop
  | 0, _, _, _ => False
  | n + 1, x1, x2, s => (((s.1 9) ≤ x2 → K x1 x2 s) ∧ (¬ (s.1 9) ≤ x2 → vp_in x2 9 ∧ ((((s.2 8 x2.toNatClampNeg) = 0 → ∀ v4 : Int32, v4 = x1 + 0 → ∀ v5 : Int32, v5 = x2 + 1 → wl_Runs_howMany_4 Q K n v4 v5 s) ∧ (¬ (s.2 8 x2.toNatClampNeg) = 0 → vp_in x2 9 ∧ (∀ v7 : Int32, v7 = x1 + (s.2 5 x2.toNatClampNeg) → ∀ v8 : Int32, v8 = x2 + 1 → wl_Runs_howMany_4 Q K n v7 v8 s))))))
set_option maxHeartbeats 4000000 in
set_option maxRecDepth 100000 in
theorem w_Runs_howMany_4 (X : gX) (ad : Nat → Nat) (Q : Int32 → gS → Prop) (K : Int32 → Int32 → gS → Prop) (E : gE) (C : gC X E b_RU_howMany 3 R_RU) (hRm : gRm E = rm_Runs_howMany) (r : gR X E b_RU_howMany (some .int) (gBi (wC ad X) Q)) (hK : ∀ (x1 : Int32) (x2 : Int32) (s : gS), K x1 x2 s → gW X E 0 0 (wC ad X s) [(0, .ref (ad 6)), (1, .int x1), (2, .int x2)] 40 []) : ∀ (n : Nat) (x1 : Int32) (x2 : Int32) (s : gS), wl_Runs_howMany_4 Q K n x1 x2 s → gW X E 0 0 (wC ad X s) [(0, .ref (ad 6)), (1, .int x1), (2, .int x2)] 4 [] := by
  intro n
  induction n with
  | zero => intro x1 x2 s h; exact False.elim h
  | succ n ih =>
    intro x1 x2 s h
    have h : (((s.1 9) ≤ x2 → K x1 x2 s) ∧ (¬ (s.1 9) ≤ x2 → vp_in x2 9 ∧ ((((s.2 8 x2.toNatClampNeg) = 0 → ∀ v4 : Int32, v4 = x1 + 0 → ∀ v5 : Int32, v5 = x2 + 1 → wl_Runs_howMany_4 Q K n v4 v5 s) ∧ (¬ (s.2 8 x2.toNatClampNeg) = 0 → vp_in x2 9 ∧ (∀ v7 : Int32, v7 = x1 + (s.2 5 x2.toNatClampNeg) → ∀ v8 : Int32, v8 = x2 + 1 → wl_Runs_howMany_4 Q K n v7 v8 s)))))) := h
    refine g_iload_n C d_RU_howMany_4 rfl 2 rfl ?_
    refine g_aload_n C d_RU_howMany_5 rfl 0 rfl ?_
    refine g_get C (v := .int (s.1 9)) 6 7 iw_RU rfl rfl (by decide) (gt 183 (by decide +kernel) rfl) rfl rfl d_RU_howMany_6 ?_
    refine g_icmp_ge C 40 d_RU_howMany_9 (by decide) (fun c1 => ?_) (fun c1 => ?_)
    · have h := h.1 c1
      exact hK x1 x2 s h
    · have h := h.2 c1
      refine g_iload_n C d_RU_howMany_12 rfl 1 rfl ?_
      refine g_aload_n C d_RU_howMany_13 rfl 0 rfl ?_
      refine g_get C (v := .ref (ad 12)) 6 6 iw_RU rfl rfl (by decide) (gt 182 (by decide +kernel) rfl) rfl rfl d_RU_howMany_14 ?_
      refine g_iload_n C d_RU_howMany_17 rfl 2 rfl ?_
      obtain ⟨i2, h⟩ := h
      refine g_zald C 12 1 rfl rfl i2 d_RU_howMany_18 ?_
      refine g_if_eq C 31 d_RU_howMany_19 (by decide) (fun c3 => ?_) (fun c3 => ?_)
      · have h := h.1 c3
        refine g_iconst C 0 d_RU_howMany_31 (by decide) ?_
        refine g_iadd C d_RU_howMany_32 ?_
        refine g_topi (fun v4 e_v4 => ?_)
        have h := h v4 e_v4
        refine g_istore_n C (lv2 := [(0, .ref (ad 6)), (1, .int v4), (2, .int x2)]) d_RU_howMany_33 rfl (by decide) rfl ?_
        obtain ⟨v5, e_v5⟩ : ∃ y : Int32, y = x2 + 1 := ⟨_, rfl⟩
        have h := h v5 e_v5
        refine g_iinc C (v := v5) (lv2 := [(0, .ref (ad 6)), (1, .int v4), (2, .int v5)]) d_RU_howMany_34 2 rfl (by rw [e_v5]; rfl) (by decide) rfl ?_
        refine g_goto C 4 d_RU_howMany_37 (by decide) ?_
        exact ih v4 v5 s h
      · have h := h.2 c3
        refine g_aload_n C d_RU_howMany_22 rfl 0 rfl ?_
        refine g_get C (v := .ref (ad 9)) 6 3 iw_RU rfl rfl (by decide) (gt 175 (by decide +kernel) rfl) rfl rfl d_RU_howMany_23 ?_
        refine g_iload_n C d_RU_howMany_26 rfl 2 rfl ?_
        obtain ⟨i6, h⟩ := h
        refine g_iald C 9 0 rfl rfl i6 d_RU_howMany_27 ?_
        refine g_goto C 32 d_RU_howMany_28 (by decide) ?_
        refine g_iadd C d_RU_howMany_32 ?_
        refine g_topi (fun v7 e_v7 => ?_)
        have h := h v7 e_v7
        refine g_istore_n C (lv2 := [(0, .ref (ad 6)), (1, .int v7), (2, .int x2)]) d_RU_howMany_33 rfl (by decide) rfl ?_
        obtain ⟨v8, e_v8⟩ : ∃ y : Int32, y = x2 + 1 := ⟨_, rfl⟩
        have h := h v8 e_v8
        refine g_iinc C (v := v8) (lv2 := [(0, .ref (ad 6)), (1, .int v7), (2, .int v8)]) d_RU_howMany_34 2 rfl (by rw [e_v8]; rfl) (by decide) rfl ?_
        refine g_goto C 4 d_RU_howMany_37 (by decide) ?_
        exact ih v7 v8 s h
def wp_Runs_howMany (s : gS) (Q : Int32 → gS → Prop) : Prop := ∃ n9 : Nat, wl_Runs_howMany_4 Q (fun v11 v12 s10 => Q v11 s10)  n9 0 0 s
set_option maxHeartbeats 4000000 in
set_option maxRecDepth 100000 in
theorem w_Runs_howMany (X : gX) (ad : Nat → Nat) (s : gS) (Q : Int32 → gS → Prop) (h : wp_Runs_howMany  s Q) (E : gE) (C : gC X E b_RU_howMany 3 R_RU) (hRm : gRm E = rm_Runs_howMany) (r : gR X E b_RU_howMany (some .int) (gBi (wC ad X) Q)) : gW X E 0 0 (wC ad X s) [(0, .ref (ad 6))] 0 [] := by
  have h : ∃ n9 : Nat, wl_Runs_howMany_4 Q (fun v11 v12 s10 => Q v11 s10)  n9 0 0 s := h
  refine g_iconst C 0 d_RU_howMany_0 (by decide) ?_
  refine g_istore_n C (lv2 := [(0, .ref (ad 6)), (1, .int 0)]) d_RU_howMany_1 rfl (by decide) rfl ?_
  refine g_iconst C 0 d_RU_howMany_2 (by decide) ?_
  refine g_istore_n C (lv2 := [(0, .ref (ad 6)), (1, .int 0), (2, .int 0)]) d_RU_howMany_3 rfl (by decide) rfl ?_
  obtain ⟨n9, h⟩ := h
  refine w_Runs_howMany_4 X ad Q (_)  E C hRm r ?_ n9 0 0 s h
  intro v11 v12 s10 h
  refine g_iload_n C d_RU_howMany_40 rfl 1 rfl ?_
  exact g_iret r rfl d_RU_howMany_41 (gBi_mk h)
theorem m_Runs_howMany (X : gX) (ad : Nat → Nat) (s : gS) (Q : Int32 → gS → Prop) (h : wp_Runs_howMany  s Q) (l : Launch) : gM l X y_RU_howMany b_RU_howMany 3 (some .int) rm_Runs_howMany [.ref (ad 6)] (wC ad X s) (gBi (wC ad X) Q) :=
  gM_of (by decide +kernel) rfl (Nat.le_of_ble_eq_true rfl) rfl (fun E C hRm r => w_Runs_howMany X ad  s Q h E C hRm r)
def rm_Runs_leastAt : Room := { frames := 0, cells := 0, slots := 0, locals := 0 }
def wl_Runs_leastAt_4 (Q : Int32 → gS → Prop) (K : Int32 → Int32 → gS → Prop) (x1 : Int32) : Nat → Int32 → Int32 → gS → Prop
  | 0, _, _, _ => False
  | n + 1, x2, x3, s => (((s.1 9) ≤ x3 → K x2 x3 s) ∧ (¬ (s.1 9) ≤ x3 → vp_in x3 9 ∧ ((((s.2 5 x3.toNatClampNeg) ≤ 0 → ∀ v4 : Int32, v4 = x3 + 1 → wl_Runs_leastAt_4 Q K x1 n x2 v4 s) ∧ (¬ (s.2 5 x3.toNatClampNeg) ≤ 0 → vp_in x3 9 ∧ (((¬ (s.2 8 x3.toNatClampNeg) = 0 → ((x2 < 0 → ∀ v8 : Int32, v8 = x3 + 1 → wl_Runs_leastAt_4 Q K x1 n x3 v8 s) ∧ (¬ x2 < 0 → vp_in x3 9 ∧ (vp_in x2 9 ∧ ((((s.2 7 x2.toNatClampNeg) ≤ (s.2 7 x3.toNatClampNeg) → ∀ v12 : Int32, v12 = x3 + 1 → wl_Runs_leastAt_4 Q K x1 n x2 v12 s) ∧ (¬ (s.2 7 x2.toNatClampNeg) ≤ (s.2 7 x3.toNatClampNeg) → ∀ v13 : Int32, v13 = x3 + 1 → wl_Runs_leastAt_4 Q K x1 n x3 v13 s))))))) ∧ ((s.2 8 x3.toNatClampNeg) = 0 → ((¬ x1 = 0 → ∀ v15 : Int32, v15 = x3 + 1 → wl_Runs_leastAt_4 Q K x1 n x2 v15 s) ∧ (x1 = 0 → ((x2 < 0 → ∀ v17 : Int32, v17 = x3 + 1 → wl_Runs_leastAt_4 Q K x1 n x3 v17 s) ∧ (¬ x2 < 0 → vp_in x3 9 ∧ (vp_in x2 9 ∧ ((((s.2 7 x2.toNatClampNeg) ≤ (s.2 7 x3.toNatClampNeg) → ∀ v21 : Int32, v21 = x3 + 1 → wl_Runs_leastAt_4 Q K x1 n x2 v21 s) ∧ (¬ (s.2 7 x2.toNatClampNeg) ≤ (s.2 7 x3.toNatClampNeg) → ∀ v22 : Int32, v22 = x3 + 1 → wl_Runs_leastAt_4 Q K x1 n x3 v22 s))))))))))))))))
set_option maxHeartbeats 4000000 in
set_option maxRecDepth 100000 in
theorem w_Runs_leastAt_4 (X : gX) (ad : Nat → Nat) (Q : Int32 → gS → Prop) (K : Int32 → Int32 → gS → Prop) (x1 : Int32) (E : gE) (C : gC X E b_RU_leastAt 5 R_RU) (hRm : gRm E = rm_Runs_leastAt) (r : gR X E b_RU_leastAt (some .int) (gBi (wC ad X) Q)) (hK : ∀ (x2 : Int32) (x3 : Int32) (s : gS), K x2 x3 s → gW X E 0 0 (wC ad X s) [(0, .ref (ad 6)), (1, .int x1), (2, .int x2), (3, .int x3)] 73 []) : ∀ (n : Nat) (x2 : Int32) (x3 : Int32) (s : gS), wl_Runs_leastAt_4 Q K x1 n x2 x3 s → gW X E 0 0 (wC ad X s) [(0, .ref (ad 6)), (1, .int x1), (2, .int x2), (3, .int x3)] 4 [] := by
  intro n
  induction n with
  | zero => intro x2 x3 s h; exact False.elim h
  | succ n ih =>
    intro x2 x3 s h
    have h : (((s.1 9) ≤ x3 → K x2 x3 s) ∧ (¬ (s.1 9) ≤ x3 → vp_in x3 9 ∧ ((((s.2 5 x3.toNatClampNeg) ≤ 0 → ∀ v4 : Int32, v4 = x3 + 1 → wl_Runs_leastAt_4 Q K x1 n x2 v4 s) ∧ (¬ (s.2 5 x3.toNatClampNeg) ≤ 0 → vp_in x3 9 ∧ (((¬ (s.2 8 x3.toNatClampNeg) = 0 → ((x2 < 0 → ∀ v8 : Int32, v8 = x3 + 1 → wl_Runs_leastAt_4 Q K x1 n x3 v8 s) ∧ (¬ x2 < 0 → vp_in x3 9 ∧ (vp_in x2 9 ∧ ((((s.2 7 x2.toNatClampNeg) ≤ (s.2 7 x3.toNatClampNeg) → ∀ v12 : Int32, v12 = x3 + 1 → wl_Runs_leastAt_4 Q K x1 n x2 v12 s) ∧ (¬ (s.2 7 x2.toNatClampNeg) ≤ (s.2 7 x3.toNatClampNeg) → ∀ v13 : Int32, v13 = x3 + 1 → wl_Runs_leastAt_4 Q K x1 n x3 v13 s))))))) ∧ ((s.2 8 x3.toNatClampNeg) = 0 → ((¬ x1 = 0 → ∀ v15 : Int32, v15 = x3 + 1 → wl_Runs_leastAt_4 Q K x1 n x2 v15 s) ∧ (x1 = 0 → ((x2 < 0 → ∀ v17 : Int32, v17 = x3 + 1 → wl_Runs_leastAt_4 Q K x1 n x3 v17 s) ∧ (¬ x2 < 0 → vp_in x3 9 ∧ (vp_in x2 9 ∧ ((((s.2 7 x2.toNatClampNeg) ≤ (s.2 7 x3.toNatClampNeg) → ∀ v21 : Int32, v21 = x3 + 1 → wl_Runs_leastAt_4 Q K x1 n x2 v21 s) ∧ (¬ (s.2 7 x2.toNatClampNeg) ≤ (s.2 7 x3.toNatClampNeg) → ∀ v22 : Int32, v22 = x3 + 1 → wl_Runs_leastAt_4 Q K x1 n x3 v22 s)))))))))))))))) := h
    refine g_iload_n C d_RU_leastAt_4 rfl 3 rfl ?_
    refine g_aload_n C d_RU_leastAt_5 rfl 0 rfl ?_
    refine g_get C (v := .int (s.1 9)) 6 7 iw_RU rfl rfl (by decide) (gt 183 (by decide +kernel) rfl) rfl rfl d_RU_leastAt_6 ?_
    refine g_icmp_ge C 73 d_RU_leastAt_9 (by decide) (fun c1 => ?_) (fun c1 => ?_)
    · have h := h.1 c1
      exact hK x2 x3 s h
    · have h := h.2 c1
      refine g_aload_n C d_RU_leastAt_12 rfl 0 rfl ?_
      refine g_get C (v := .ref (ad 9)) 6 3 iw_RU rfl rfl (by decide) (gt 175 (by decide +kernel) rfl) rfl rfl d_RU_leastAt_13 ?_
      refine g_iload_n C d_RU_leastAt_16 rfl 3 rfl ?_
      obtain ⟨i2, h⟩ := h
      refine g_iald C 9 0 rfl rfl i2 d_RU_leastAt_17 ?_
      refine g_if_le C 38 d_RU_leastAt_18 (by decide) (fun c3 => ?_) (fun c3 => ?_)
      · have h := h.1 c3
        refine g_iconst C 0 d_RU_leastAt_38 (by decide) ?_
        refine g_istore C (lv2 := [(0, .ref (ad 6)), (1, .int x1), (2, .int x2), (3, .int x3), (4, .int 0)]) d_RU_leastAt_39 (by decide) rfl ?_
        refine g_iload C d_RU_leastAt_41 4 rfl ?_
        refine g_if_eq C 67 d_RU_leastAt_43 (by decide) (fun _ => ?_) (fun c9 => absurd c9 (by decide))
        obtain ⟨v4, e_v4⟩ : ∃ y : Int32, y = x3 + 1 := ⟨_, rfl⟩
        have h := h v4 e_v4
        refine g_iinc C (v := v4) (lv2 := [(0, .ref (ad 6)), (1, .int x1), (2, .int x2), (3, .int v4), (4, .int 0)]) d_RU_leastAt_67 3 rfl (by rw [e_v4]; rfl) (by decide) rfl ?_
        refine g_goto C 4 d_RU_leastAt_70 (by decide) ?_
        refine g_lv C [0, 1, 2, 3] rfl ?_
        exact ih x2 v4 s h
      · have h := h.2 c3
        refine g_aload_n C d_RU_leastAt_21 rfl 0 rfl ?_
        refine g_get C (v := .ref (ad 12)) 6 6 iw_RU rfl rfl (by decide) (gt 182 (by decide +kernel) rfl) rfl rfl d_RU_leastAt_22 ?_
        refine g_iload_n C d_RU_leastAt_25 rfl 3 rfl ?_
        obtain ⟨i5, h⟩ := h
        refine g_zald C 12 1 rfl rfl i5 d_RU_leastAt_26 ?_
        refine g_if_ne C 34 d_RU_leastAt_27 (by decide) (fun c6 => ?_) (fun c6 => ?_)
        · have h := h.1 c6
          refine g_iconst C 1 d_RU_leastAt_34 (by decide) ?_
          refine g_goto C 39 d_RU_leastAt_35 (by decide) ?_
          refine g_istore C (lv2 := [(0, .ref (ad 6)), (1, .int x1), (2, .int x2), (3, .int x3), (4, .int 1)]) d_RU_leastAt_39 (by decide) rfl ?_
          refine g_iload C d_RU_leastAt_41 4 rfl ?_
          refine g_if_eq C 67 d_RU_leastAt_43 (by decide) (fun c9 => absurd c9 (by decide)) (fun _ => ?_)
          refine g_iload_n C d_RU_leastAt_46 rfl 2 rfl ?_
          refine g_if_lt C 65 d_RU_leastAt_47 (by decide) (fun c7 => ?_) (fun c7 => ?_)
          · have h := h.1 c7
            refine g_iload_n C d_RU_leastAt_65 rfl 3 rfl ?_
            refine g_istore_n C (lv2 := [(0, .ref (ad 6)), (1, .int x1), (2, .int x3), (3, .int x3), (4, .int 1)]) d_RU_leastAt_66 rfl (by decide) rfl ?_
            obtain ⟨v8, e_v8⟩ : ∃ y : Int32, y = x3 + 1 := ⟨_, rfl⟩
            have h := h v8 e_v8
            refine g_iinc C (v := v8) (lv2 := [(0, .ref (ad 6)), (1, .int x1), (2, .int x3), (3, .int v8), (4, .int 1)]) d_RU_leastAt_67 3 rfl (by rw [e_v8]; rfl) (by decide) rfl ?_
            refine g_goto C 4 d_RU_leastAt_70 (by decide) ?_
            refine g_lv C [0, 1, 2, 3] rfl ?_
            exact ih x3 v8 s h
          · have h := h.2 c7
            refine g_aload_n C d_RU_leastAt_50 rfl 0 rfl ?_
            refine g_get C (v := .ref (ad 11)) 6 5 iw_RU rfl rfl (by decide) (gt 181 (by decide +kernel) rfl) rfl rfl d_RU_leastAt_51 ?_
            refine g_iload_n C d_RU_leastAt_54 rfl 3 rfl ?_
            obtain ⟨i9, h⟩ := h
            refine g_iald C 11 0 rfl rfl i9 d_RU_leastAt_55 ?_
            refine g_aload_n C d_RU_leastAt_56 rfl 0 rfl ?_
            refine g_get C (v := .ref (ad 11)) 6 5 iw_RU rfl rfl (by decide) (gt 181 (by decide +kernel) rfl) rfl rfl d_RU_leastAt_57 ?_
            refine g_iload_n C d_RU_leastAt_60 rfl 2 rfl ?_
            obtain ⟨i10, h⟩ := h
            refine g_iald C 11 0 rfl rfl i10 d_RU_leastAt_61 ?_
            refine g_icmp_ge C 67 d_RU_leastAt_62 (by decide) (fun c11 => ?_) (fun c11 => ?_)
            · have h := h.1 c11
              obtain ⟨v12, e_v12⟩ : ∃ y : Int32, y = x3 + 1 := ⟨_, rfl⟩
              have h := h v12 e_v12
              refine g_iinc C (v := v12) (lv2 := [(0, .ref (ad 6)), (1, .int x1), (2, .int x2), (3, .int v12), (4, .int 1)]) d_RU_leastAt_67 3 rfl (by rw [e_v12]; rfl) (by decide) rfl ?_
              refine g_goto C 4 d_RU_leastAt_70 (by decide) ?_
              refine g_lv C [0, 1, 2, 3] rfl ?_
              exact ih x2 v12 s h
            · have h := h.2 c11
              refine g_iload_n C d_RU_leastAt_65 rfl 3 rfl ?_
              refine g_istore_n C (lv2 := [(0, .ref (ad 6)), (1, .int x1), (2, .int x3), (3, .int x3), (4, .int 1)]) d_RU_leastAt_66 rfl (by decide) rfl ?_
              obtain ⟨v13, e_v13⟩ : ∃ y : Int32, y = x3 + 1 := ⟨_, rfl⟩
              have h := h v13 e_v13
              refine g_iinc C (v := v13) (lv2 := [(0, .ref (ad 6)), (1, .int x1), (2, .int x3), (3, .int v13), (4, .int 1)]) d_RU_leastAt_67 3 rfl (by rw [e_v13]; rfl) (by decide) rfl ?_
              refine g_goto C 4 d_RU_leastAt_70 (by decide) ?_
              refine g_lv C [0, 1, 2, 3] rfl ?_
              exact ih x3 v13 s h
        · have h := h.2 c6
          refine g_iload_n C d_RU_leastAt_30 rfl 1 rfl ?_
          refine g_if_ne C 38 d_RU_leastAt_31 (by decide) (fun c14 => ?_) (fun c14 => ?_)
          · have h := h.1 c14
            refine g_iconst C 0 d_RU_leastAt_38 (by decide) ?_
            refine g_istore C (lv2 := [(0, .ref (ad 6)), (1, .int x1), (2, .int x2), (3, .int x3), (4, .int 0)]) d_RU_leastAt_39 (by decide) rfl ?_
            refine g_iload C d_RU_leastAt_41 4 rfl ?_
            refine g_if_eq C 67 d_RU_leastAt_43 (by decide) (fun _ => ?_) (fun c9 => absurd c9 (by decide))
            obtain ⟨v15, e_v15⟩ : ∃ y : Int32, y = x3 + 1 := ⟨_, rfl⟩
            have h := h v15 e_v15
            refine g_iinc C (v := v15) (lv2 := [(0, .ref (ad 6)), (1, .int x1), (2, .int x2), (3, .int v15), (4, .int 0)]) d_RU_leastAt_67 3 rfl (by rw [e_v15]; rfl) (by decide) rfl ?_
            refine g_goto C 4 d_RU_leastAt_70 (by decide) ?_
            refine g_lv C [0, 1, 2, 3] rfl ?_
            exact ih x2 v15 s h
          · have h := h.2 c14
            refine g_iconst C 1 d_RU_leastAt_34 (by decide) ?_
            refine g_goto C 39 d_RU_leastAt_35 (by decide) ?_
            refine g_istore C (lv2 := [(0, .ref (ad 6)), (1, .int x1), (2, .int x2), (3, .int x3), (4, .int 1)]) d_RU_leastAt_39 (by decide) rfl ?_
            refine g_iload C d_RU_leastAt_41 4 rfl ?_
            refine g_if_eq C 67 d_RU_leastAt_43 (by decide) (fun c9 => absurd c9 (by decide)) (fun _ => ?_)
            refine g_iload_n C d_RU_leastAt_46 rfl 2 rfl ?_
            refine g_if_lt C 65 d_RU_leastAt_47 (by decide) (fun c16 => ?_) (fun c16 => ?_)
            · have h := h.1 c16
              refine g_iload_n C d_RU_leastAt_65 rfl 3 rfl ?_
              refine g_istore_n C (lv2 := [(0, .ref (ad 6)), (1, .int x1), (2, .int x3), (3, .int x3), (4, .int 1)]) d_RU_leastAt_66 rfl (by decide) rfl ?_
              obtain ⟨v17, e_v17⟩ : ∃ y : Int32, y = x3 + 1 := ⟨_, rfl⟩
              have h := h v17 e_v17
              refine g_iinc C (v := v17) (lv2 := [(0, .ref (ad 6)), (1, .int x1), (2, .int x3), (3, .int v17), (4, .int 1)]) d_RU_leastAt_67 3 rfl (by rw [e_v17]; rfl) (by decide) rfl ?_
              refine g_goto C 4 d_RU_leastAt_70 (by decide) ?_
              refine g_lv C [0, 1, 2, 3] rfl ?_
              exact ih x3 v17 s h
            · have h := h.2 c16
              refine g_aload_n C d_RU_leastAt_50 rfl 0 rfl ?_
              refine g_get C (v := .ref (ad 11)) 6 5 iw_RU rfl rfl (by decide) (gt 181 (by decide +kernel) rfl) rfl rfl d_RU_leastAt_51 ?_
              refine g_iload_n C d_RU_leastAt_54 rfl 3 rfl ?_
              obtain ⟨i18, h⟩ := h
              refine g_iald C 11 0 rfl rfl i18 d_RU_leastAt_55 ?_
              refine g_aload_n C d_RU_leastAt_56 rfl 0 rfl ?_
              refine g_get C (v := .ref (ad 11)) 6 5 iw_RU rfl rfl (by decide) (gt 181 (by decide +kernel) rfl) rfl rfl d_RU_leastAt_57 ?_
              refine g_iload_n C d_RU_leastAt_60 rfl 2 rfl ?_
              obtain ⟨i19, h⟩ := h
              refine g_iald C 11 0 rfl rfl i19 d_RU_leastAt_61 ?_
              refine g_icmp_ge C 67 d_RU_leastAt_62 (by decide) (fun c20 => ?_) (fun c20 => ?_)
              · have h := h.1 c20
                obtain ⟨v21, e_v21⟩ : ∃ y : Int32, y = x3 + 1 := ⟨_, rfl⟩
                have h := h v21 e_v21
                refine g_iinc C (v := v21) (lv2 := [(0, .ref (ad 6)), (1, .int x1), (2, .int x2), (3, .int v21), (4, .int 1)]) d_RU_leastAt_67 3 rfl (by rw [e_v21]; rfl) (by decide) rfl ?_
                refine g_goto C 4 d_RU_leastAt_70 (by decide) ?_
                refine g_lv C [0, 1, 2, 3] rfl ?_
                exact ih x2 v21 s h
              · have h := h.2 c20
                refine g_iload_n C d_RU_leastAt_65 rfl 3 rfl ?_
                refine g_istore_n C (lv2 := [(0, .ref (ad 6)), (1, .int x1), (2, .int x3), (3, .int x3), (4, .int 1)]) d_RU_leastAt_66 rfl (by decide) rfl ?_
                obtain ⟨v22, e_v22⟩ : ∃ y : Int32, y = x3 + 1 := ⟨_, rfl⟩
                have h := h v22 e_v22
                refine g_iinc C (v := v22) (lv2 := [(0, .ref (ad 6)), (1, .int x1), (2, .int x3), (3, .int v22), (4, .int 1)]) d_RU_leastAt_67 3 rfl (by rw [e_v22]; rfl) (by decide) rfl ?_
                refine g_goto C 4 d_RU_leastAt_70 (by decide) ?_
                refine g_lv C [0, 1, 2, 3] rfl ?_
                exact ih x3 v22 s h
def wp_Runs_leastAt (a1 : Int32) (s : gS) (Q : Int32 → gS → Prop) : Prop := ∃ n23 : Nat, wl_Runs_leastAt_4 Q (fun v25 v26 s24 => Q v25 s24) a1 n23 (-1) 0 s
set_option maxHeartbeats 4000000 in
set_option maxRecDepth 100000 in
theorem w_Runs_leastAt (X : gX) (ad : Nat → Nat) (a1 : Int32) (s : gS) (Q : Int32 → gS → Prop) (h : wp_Runs_leastAt a1 s Q) (E : gE) (C : gC X E b_RU_leastAt 5 R_RU) (hRm : gRm E = rm_Runs_leastAt) (r : gR X E b_RU_leastAt (some .int) (gBi (wC ad X) Q)) : gW X E 0 0 (wC ad X s) [(0, .ref (ad 6)), (1, .int a1)] 0 [] := by
  have h : ∃ n23 : Nat, wl_Runs_leastAt_4 Q (fun v25 v26 s24 => Q v25 s24) a1 n23 (-1) 0 s := h
  refine g_iconst C (-1) d_RU_leastAt_0 (by decide) ?_
  refine g_istore_n C (lv2 := [(0, .ref (ad 6)), (1, .int a1), (2, .int (-1))]) d_RU_leastAt_1 rfl (by decide) rfl ?_
  refine g_iconst C 0 d_RU_leastAt_2 (by decide) ?_
  refine g_istore_n C (lv2 := [(0, .ref (ad 6)), (1, .int a1), (2, .int (-1)), (3, .int 0)]) d_RU_leastAt_3 rfl (by decide) rfl ?_
  obtain ⟨n23, h⟩ := h
  refine w_Runs_leastAt_4 X ad Q (_) a1 E C hRm r ?_ n23 (-1) 0 s h
  intro v25 v26 s24 h
  refine g_iload_n C d_RU_leastAt_73 rfl 2 rfl ?_
  exact g_iret r rfl d_RU_leastAt_74 (gBi_mk h)
theorem m_Runs_leastAt (X : gX) (ad : Nat → Nat) (a1 : Int32) (s : gS) (Q : Int32 → gS → Prop) (h : wp_Runs_leastAt a1 s Q) (l : Launch) : gM l X y_RU_leastAt b_RU_leastAt 5 (some .int) rm_Runs_leastAt [.ref (ad 6), .int a1] (wC ad X s) (gBi (wC ad X) Q) :=
  gM_of (by decide +kernel) rfl (Nat.le_of_ble_eq_true rfl) rfl (fun E C hRm r => w_Runs_leastAt X ad a1 s Q h E C hRm r)
def rm_Runs_has : Room := { frames := 0, cells := 0, slots := 0, locals := 0 }
def wp_Runs_has (a1 : Int32) (s : gS) (Q : Int32 → gS → Prop) : Prop := ((a1 < 0 → Q 0 s) ∧ (¬ a1 < 0 → (((s.1 9) ≤ a1 → Q 0 s) ∧ (¬ (s.1 9) ≤ a1 → Q 1 s))))
set_option maxHeartbeats 4000000 in
set_option maxRecDepth 100000 in
theorem w_Runs_has (X : gX) (ad : Nat → Nat) (a1 : Int32) (s : gS) (Q : Int32 → gS → Prop) (h : wp_Runs_has a1 s Q) (E : gE) (C : gC X E b_RU_has 2 R_RU) (hRm : gRm E = rm_Runs_has) (r : gR X E b_RU_has (some .boolean) (gBi (wC ad X) Q)) : gW X E 0 0 (wC ad X s) [(0, .ref (ad 6)), (1, .int a1)] 0 [] := by
  have h : ((a1 < 0 → Q 0 s) ∧ (¬ a1 < 0 → (((s.1 9) ≤ a1 → Q 0 s) ∧ (¬ (s.1 9) ≤ a1 → Q 1 s)))) := h
  refine g_iload_n C d_RU_has_0 rfl 1 rfl ?_
  refine g_if_lt C 16 d_RU_has_1 (by decide) (fun c1 => ?_) (fun c1 => ?_)
  · have h := h.1 c1
    refine g_iconst C 0 d_RU_has_16 (by decide) ?_
    exact g_iret r rfl d_RU_has_17 (gBi_mk h)
  · have h := h.2 c1
    refine g_iload_n C d_RU_has_4 rfl 1 rfl ?_
    refine g_aload_n C d_RU_has_5 rfl 0 rfl ?_
    refine g_get C (v := .int (s.1 9)) 6 7 iw_RU rfl rfl (by decide) (gt 183 (by decide +kernel) rfl) rfl rfl d_RU_has_6 ?_
    refine g_icmp_ge C 16 d_RU_has_9 (by decide) (fun c2 => ?_) (fun c2 => ?_)
    · have h := h.1 c2
      refine g_iconst C 0 d_RU_has_16 (by decide) ?_
      exact g_iret r rfl d_RU_has_17 (gBi_mk h)
    · have h := h.2 c2
      refine g_iconst C 1 d_RU_has_12 (by decide) ?_
      refine g_goto C 17 d_RU_has_13 (by decide) ?_
      exact g_iret r rfl d_RU_has_17 (gBi_mk h)
theorem m_Runs_has (X : gX) (ad : Nat → Nat) (a1 : Int32) (s : gS) (Q : Int32 → gS → Prop) (h : wp_Runs_has a1 s Q) (l : Launch) : gM l X y_RU_has b_RU_has 2 (some .boolean) rm_Runs_has [.ref (ad 6), .int a1] (wC ad X s) (gBi (wC ad X) Q) :=
  gM_of (by decide +kernel) rfl (Nat.le_of_ble_eq_true rfl) rfl (fun E C hRm r => w_Runs_has X ad a1 s Q h E C hRm r)
