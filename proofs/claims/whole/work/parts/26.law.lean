/-! The law's loop. -/
def lawStep_format (a1 a2 a3 a4 : Int32) (s : gS) (f : Nat → Int64) (t : gS) (K : gS → (Nat → Int64) → gS → Prop) : Prop := wp_L_format a1 a2 a3 a4 s f (fun k1 s1 f1 => wp_M_SpillQueueModel_format a1 a2 a3 a4 t (fun t1 => wp_M_SpillQueueModel_thrown t1 (fun th t2 => th = k1 ∧ K s1 f1 t2)))
def lawStep_insert (a1 a2 a3 a4 : Int32) (s : gS) (f : Nat → Int64) (t : gS) (K : gS → (Nat → Int64) → gS → Prop) : Prop := wp_L_insert a1 s f (fun k1 s1 f1 => wp_M_SpillQueueModel_insert a1 t (fun b1 t1 => wp_M_SpillQueueModel_thrown t1 (fun th t2 => th = k1 ∧ ((¬ k1 = 0 → K s1 f1 t2) ∧ (k1 = 0 → lg_cmp (f1 (0 : Int32).toNatClampNeg) b1.toInt64 = 0 ∧ K s1 f1 t2)))))
def lawStep_min (a1 a2 a3 a4 : Int32) (s : gS) (f : Nat → Int64) (t : gS) (K : gS → (Nat → Int64) → gS → Prop) : Prop := wp_L_min  s f (fun k1 s1 f1 => wp_M_SpillQueueModel_min  t (fun b1 t1 => wp_M_SpillQueueModel_thrown t1 (fun th t2 => th = k1 ∧ ((¬ k1 = 0 → K s1 f1 t2) ∧ (k1 = 0 → lg_cmp (f1 (0 : Int32).toNatClampNeg) b1.toInt64 = 0 ∧ K s1 f1 t2)))))
def lawStep_take (a1 a2 a3 a4 : Int32) (s : gS) (f : Nat → Int64) (t : gS) (K : gS → (Nat → Int64) → gS → Prop) : Prop := wp_L_take  s f (fun k1 s1 f1 => wp_M_SpillQueueModel_take  t (fun b1 t1 => wp_M_SpillQueueModel_thrown t1 (fun th t2 => th = k1 ∧ ((¬ k1 = 0 → K s1 f1 t2) ∧ (k1 = 0 → lg_cmp (f1 (0 : Int32).toNatClampNeg) b1.toInt64 = 0 ∧ K s1 f1 t2)))))
def lawStep_sync (a1 a2 a3 a4 : Int32) (s : gS) (f : Nat → Int64) (t : gS) (K : gS → (Nat → Int64) → gS → Prop) : Prop := wp_L_sync  s f (fun k1 s1 f1 => wp_M_SpillQueueModel_sync  t (fun b1 t1 => wp_M_SpillQueueModel_thrown t1 (fun th t2 => th = k1 ∧ ((¬ k1 = 0 → K s1 f1 t2) ∧ (k1 = 0 → lg_cmp (f1 (0 : Int32).toNatClampNeg) b1.toInt64 = 0 ∧ K s1 f1 t2)))))
def lawStep_cutAt (a1 a2 a3 a4 : Int32) (s : gS) (f : Nat → Int64) (t : gS) (K : gS → (Nat → Int64) → gS → Prop) : Prop := wp_L_cutAt a1 s f (fun k1 s1 f1 => wp_M_SpillQueueModel_cutAt a1 t (fun t1 => wp_M_SpillQueueModel_thrown t1 (fun th t2 => th = k1 ∧ K s1 f1 t2)))
def lawStep_cut (a1 a2 a3 a4 : Int32) (s : gS) (f : Nat → Int64) (t : gS) (K : gS → (Nat → Int64) → gS → Prop) : Prop := wp_L_cut  s f (fun k1 s1 f1 => wp_M_SpillQueueModel_cut  t (fun t1 => wp_M_SpillQueueModel_thrown t1 (fun th t2 => th = k1 ∧ K s1 f1 t2)))
def lawStep_recover (a1 a2 a3 a4 : Int32) (s : gS) (f : Nat → Int64) (t : gS) (K : gS → (Nat → Int64) → gS → Prop) : Prop := wp_L_recover  s f (fun k1 s1 f1 => wp_M_SpillQueueModel_recover  t (fun b1 t1 => wp_M_SpillQueueModel_thrown t1 (fun th t2 => th = k1 ∧ ((¬ k1 = 0 → K s1 f1 t2) ∧ (k1 = 0 → lg_cmp (f1 (0 : Int32).toNatClampNeg) b1.toInt64 = 0 ∧ K s1 f1 t2)))))
def lawStep_size (a1 a2 a3 a4 : Int32) (s : gS) (f : Nat → Int64) (t : gS) (K : gS → (Nat → Int64) → gS → Prop) : Prop := wp_SpillQueue_size s (fun r1 s1 => wp_M_SpillQueueModel_size t (fun r2 t1 => r1 = r2 ∧ K s1 f t1))
def lawStep_run (a1 a2 a3 a4 : Int32) (s : gS) (f : Nat → Int64) (t : gS) (K : gS → (Nat → Int64) → gS → Prop) : Prop := wp_L_run a1 a2 s f (fun k1 s1 f1 => wp_M_SpillQueueModel_run a1 a2 t (fun b1 t1 => wp_M_SpillQueueModel_thrown t1 (fun th t2 => th = k1 ∧ ((¬ k1 = 0 → K s1 f1 t2) ∧ (k1 = 0 → lg_cmp (f1 (0 : Int32).toNatClampNeg) b1.toInt64 = 0 ∧ K s1 f1 t2)))))
def lawStep_about (a1 a2 a3 a4 : Int32) (s : gS) (f : Nat → Int64) (t : gS) (K : gS → (Nat → Int64) → gS → Prop) : Prop := wp_L_about a1 s f (fun k1 s1 f1 => wp_M_SpillQueueModel_about a1 t (fun b1 t1 => wp_M_SpillQueueModel_thrown t1 (fun th t2 => th = k1 ∧ ((¬ k1 = 0 → K s1 f1 t2) ∧ (k1 = 0 → lg_cmp (f1 (0 : Int32).toNatClampNeg) b1.toInt64 = 0 ∧ K s1 f1 t2)))))
def lawStep_word (a1 a2 a3 a4 : Int32) (s : gS) (f : Nat → Int64) (t : gS) (K : gS → (Nat → Int64) → gS → Prop) : Prop := wp_L_word a1 a2 s f (fun k1 s1 f1 => wp_M_SpillQueueModel_word a1 a2 t (fun b1 t1 => wp_M_SpillQueueModel_thrown t1 (fun th t2 => th = k1 ∧ ((¬ k1 = 0 → K s1 f1 t2) ∧ (k1 = 0 → lg_cmp (f1 (0 : Int32).toNatClampNeg) b1.toInt64 = 0 ∧ K s1 f1 t2)))))
def lawStep_spoil (a1 a2 a3 a4 : Int32) (s : gS) (f : Nat → Int64) (t : gS) (K : gS → (Nat → Int64) → gS → Prop) : Prop := wp_L_spoil a1 a2 a3 s f (fun k1 s1 f1 => wp_M_SpillQueueModel_spoil a1 a2 a3 t (fun t1 => wp_M_SpillQueueModel_thrown t1 (fun th t2 => th = k1 ∧ K s1 f1 t2)))
theorem law_idx {L j : Nat} (hL : L ≤ 2560) (hj : j ≤ 512) (h : ¬ Int32.ofNat L - 5 < nI (5 * j)) : 5 * j + 5 ≤ L := by
  have h1 : (nI L - nI 5).toInt = (L : Int) - 5 := pk_sub_toInt (by omega) (by omega)
  have h2 : nI (5 * j) ≤ nI L - nI 5 := Int32.not_lt.mp h
  rw [Int32.le_iff_toInt_le, h1, nI_toInt (by omega)] at h2
  omega
theorem law_in {L j : Nat} (hL : L ≤ 2560) (h : 5 * j + 5 ≤ L) (k : Nat) (hk : k ≤ 4) : vp_in (nI (5 * j) + nI k) L := by
  rw [nI_add]
  exact vp_in_nI (by omega) (by omega)
set_option maxHeartbeats 8000000 in
set_option maxRecDepth 100000 in
theorem law_loop (X : gX) (ad am : Nat → Nat) (b L : Nat) (xs : Nat → Int32) (hL : L ≤ 2560) (E : gE) (C : gC X E code 7 R_LA) (hs : gSc E b L xs) (hRm : gRm E = room_1) (Rel : gS → gS → Prop) (hformat : ∀ (a1 a2 a3 a4 : Int32) (s : gS) (f : Nat → Int64) (t : gS), Rel s t → lawStep_format a1 a2 a3 a4 s f t (fun s1 _ t1 => Rel s1 t1)) (hinsert : ∀ (a1 a2 a3 a4 : Int32) (s : gS) (f : Nat → Int64) (t : gS), Rel s t → lawStep_insert a1 a2 a3 a4 s f t (fun s1 _ t1 => Rel s1 t1)) (hmin : ∀ (a1 a2 a3 a4 : Int32) (s : gS) (f : Nat → Int64) (t : gS), Rel s t → lawStep_min a1 a2 a3 a4 s f t (fun s1 _ t1 => Rel s1 t1)) (htake : ∀ (a1 a2 a3 a4 : Int32) (s : gS) (f : Nat → Int64) (t : gS), Rel s t → lawStep_take a1 a2 a3 a4 s f t (fun s1 _ t1 => Rel s1 t1)) (hsync : ∀ (a1 a2 a3 a4 : Int32) (s : gS) (f : Nat → Int64) (t : gS), Rel s t → lawStep_sync a1 a2 a3 a4 s f t (fun s1 _ t1 => Rel s1 t1)) (hcutAt : ∀ (a1 a2 a3 a4 : Int32) (s : gS) (f : Nat → Int64) (t : gS), Rel s t → lawStep_cutAt a1 a2 a3 a4 s f t (fun s1 _ t1 => Rel s1 t1)) (hcut : ∀ (a1 a2 a3 a4 : Int32) (s : gS) (f : Nat → Int64) (t : gS), Rel s t → lawStep_cut a1 a2 a3 a4 s f t (fun s1 _ t1 => Rel s1 t1)) (hrecover : ∀ (a1 a2 a3 a4 : Int32) (s : gS) (f : Nat → Int64) (t : gS), Rel s t → lawStep_recover a1 a2 a3 a4 s f t (fun s1 _ t1 => Rel s1 t1)) (hsize : ∀ (a1 a2 a3 a4 : Int32) (s : gS) (f : Nat → Int64) (t : gS), Rel s t → lawStep_size a1 a2 a3 a4 s f t (fun s1 _ t1 => Rel s1 t1)) (hrun : ∀ (a1 a2 a3 a4 : Int32) (s : gS) (f : Nat → Int64) (t : gS), Rel s t → lawStep_run a1 a2 a3 a4 s f t (fun s1 _ t1 => Rel s1 t1)) (habout : ∀ (a1 a2 a3 a4 : Int32) (s : gS) (f : Nat → Int64) (t : gS), Rel s t → lawStep_about a1 a2 a3 a4 s f t (fun s1 _ t1 => Rel s1 t1)) (hword : ∀ (a1 a2 a3 a4 : Int32) (s : gS) (f : Nat → Int64) (t : gS), Rel s t → lawStep_word a1 a2 a3 a4 s f t (fun s1 _ t1 => Rel s1 t1)) (hspoil : ∀ (a1 a2 a3 a4 : Int32) (s : gS) (f : Nat → Int64) (t : gS), Rel s t → lawStep_spoil a1 a2 a3 a4 s f t (fun s1 _ t1 => Rel s1 t1)) (hend : ∀ (cells slots : Nat) (ws : va_W) (lv : List (Nat × Value)), cells ≤ 1074 → slots ≤ 26192 → gW X E cells slots ws lv 740 [.int 1]) : ∀ (n j : Nat) (x4 : Int32) (s : gS) (f : Nat → Int64) (t : gS), 512 < j + n → j ≤ 512 → x4 = nI (5 * j) → Rel s t → gW X E (37 + 2 * j) (17922 + 12 * j) (wA ad am X s f t) [(0, .ref b), (1, .ref (ad 0)), (2, .ref (am 0)), (3, .ref (ad 21)), (4, .int x4)] 23 [] := by
  intro n
  induction n with
  | zero => intro j x4 s f t h1 h2; exact absurd h1 (by omega)
  | succ n ih =>
    intro j x4 s f t hn hj e4 hR
    refine g_iload C d_law_23 4 rfl ?_
    refine g_aload_n C d_law_25 rfl 0 rfl ?_
    refine g_slen C hs d_law_26 ?_
    refine g_iconst C 5 d_law_27 (by decide) ?_
    refine g_isub C d_law_28 ?_
    refine g_icmp_gt C 739 d_law_29 (by decide) (fun c1 => ?_) (fun c1 => ?_)
    · refine g_iconst C 1 d_law_739 (by decide) ?_
      exact hend _ _ _ _ (by omega) (by omega)
    · rw [e4] at c1
      have hin := law_idx hL hj c1
      have hj9 : j < 512 := by omega
      have hv1 : vp_in (x4 + 1) L := by rw [e4]; exact law_in hL hin 1 (by omega)
      have hv2 : vp_in (x4 + 2) L := by rw [e4]; exact law_in hL hin 2 (by omega)
      have hv3 : vp_in (x4 + 3) L := by rw [e4]; exact law_in hL hin 3 (by omega)
      have hv4 : vp_in (x4 + 4) L := by rw [e4]; exact law_in hL hin 4 (by omega)
      have hv0 : vp_in x4 L := by rw [e4]; exact vp_in_nI (by omega) (by omega)
      have htail : ∀ (c9 k9 : Nat) (s1 : gS) (f1 : Nat → Int64) (t1 : gS), c9 ≤ 37 + 2 * (j + 1) → k9 ≤ 17922 + 12 * (j + 1) → Rel s1 t1 → gW X E c9 k9 (wA ad am X s1 f1 t1) [(0, .ref b), (1, .ref (ad 0)), (2, .ref (am 0)), (3, .ref (ad 21)), (4, .int x4)] 733 [] := by
        intro c9 k9 s1 f1 t1 hc hk hR1
        refine g_widen hc hk ?_
        obtain ⟨v4, e_v4⟩ : ∃ y : Int32, y = x4 + Int32.ofInt 5 := ⟨_, rfl⟩
        refine g_iinc C (v := v4) (lv2 := [(0, .ref b), (1, .ref (ad 0)), (2, .ref (am 0)), (3, .ref (ad 21)), (4, .int v4)]) d_law_733 4 rfl e_v4.symm (by decide) rfl ?_
        refine g_goto C 23 d_law_736 (by decide) ?_
        exact ih (j + 1) v4 s1 f1 t1 (by omega) (by omega) (by rw [e_v4, e4]; exact nI_add (5 * j) 5) hR1
      refine g_aload_n C d_law_32 rfl 0 rfl ?_
      refine g_iload C d_law_33 4 rfl ?_
      refine g_sld C hs hv0 d_law_35 ?_
      refine g_bipush C 15 d_law_36 (by decide) ?_
      refine g_iand C d_law_38 ?_
      refine g_topi (fun op e_op => ?_)
      by_cases c_0 : op = 0
      · refine g_tableIn C 104 d_law_39 (by rw [c_0]; decide) (by rw [c_0]; decide) (by rw [c_0]; rfl) (by decide) ?_
        have h := hformat (xs (x4 + 1).toNatClampNeg) (xs (x4 + 2).toNatClampNeg) (xs (x4 + 3).toNatClampNeg) (xs (x4 + 4).toNatClampNeg) s f t hR
        have h : wp_L_format (xs (x4 + 1).toNatClampNeg) (xs (x4 + 2).toNatClampNeg) (xs (x4 + 3).toNatClampNeg) (xs (x4 + 4).toNatClampNeg) s f (fun k1 s1 f1 => wp_M_SpillQueueModel_format (xs (x4 + 1).toNatClampNeg) (xs (x4 + 2).toNatClampNeg) (xs (x4 + 3).toNatClampNeg) (xs (x4 + 4).toNatClampNeg) t (fun t1 => wp_M_SpillQueueModel_thrown t1 (fun th t2 => th = k1 ∧ Rel s1 t2))) := h
        refine g_aload_n C d_law_104 rfl 1 rfl ?_
        refine g_aload_n C d_law_105 rfl 0 rfl ?_
        refine g_iload C d_law_106 4 rfl ?_
        refine g_iconst C 1 d_law_108 (by decide) ?_
        refine g_iadd C d_law_109 ?_
        refine g_sld C hs hv1 d_law_110 ?_
        refine g_aload_n C d_law_111 rfl 0 rfl ?_
        refine g_iload C d_law_112 4 rfl ?_
        refine g_iconst C 2 d_law_114 (by decide) ?_
        refine g_iadd C d_law_115 ?_
        refine g_sld C hs hv2 d_law_116 ?_
        refine g_aload_n C d_law_117 rfl 0 rfl ?_
        refine g_iload C d_law_118 4 rfl ?_
        refine g_iconst C 3 d_law_120 (by decide) ?_
        refine g_iadd C d_law_121 ?_
        refine g_sld C hs hv3 d_law_122 ?_
        refine g_aload_n C d_law_123 rfl 0 rfl ?_
        refine g_iload C d_law_124 4 rfl ?_
        refine g_iconst C 4 d_law_126 (by decide) ?_
        refine g_iadd C d_law_127 ?_
        refine g_sld C hs hv4 d_law_128 ?_
        refine g_callSw C hs (rest := []) (n := 5) (wr := wM am X t) [0, 1, 2, 3, 4, 5, 6, 7, 8, 9, 10, 11, 12, 13, 14, 15, 16, 17, 18, 19, 20, 21] [22, 23, 24, 25, 26, 27, 28, 29, 30, 31, 32, 33, 34, 35, 36] rfl rfl rfl rfl (by decide) (fun l hl => m_L_format X ad (xs (x4 + 1).toNatClampNeg) (xs (x4 + 2).toNatClampNeg) (xs (x4 + 3).toNatClampNeg) (xs (x4 + 4).toNatClampNeg) s f _ h l hl) (gt 272 (by decide +kernel) rfl) (gt 273 (by decide +kernel) rfl) (gt 86 (by decide +kernel) rfl) (gt 274 rfl rfl) (by decide +kernel) ⟨rfl, rfl⟩ (by rw [hRm]; decide) (by rw [hRm]; exact ⟨by show 37 + 2 * j + 1 ≤ 1074; omega, by show 17922 + 12 * j + 6 ≤ 26192; omega⟩) rfl rfl (Nat.le_of_ble_eq_true rfl) d_law_129 ?_
        rintro v u ⟨k1, s1, f1, rfl, rfl, h⟩
        refine g_perm (ws2 := wA ad am X s1 f1 t) [15, 16, 17, 18, 19, 20, 21, 22, 23, 24, 25, 26, 27, 28, 29, 30, 31, 32, 33, 34, 35, 36, 0, 1, 2, 3, 4, 5, 6, 7, 8, 9, 10, 11, 12, 13, 14] rfl rfl ?_
        show gW X E _ _ _ _ _ [.int k1]
        refine g_istore C (lv2 := [(0, .ref b), (1, .ref (ad 0)), (2, .ref (am 0)), (3, .ref (ad 21)), (4, .int x4), (5, .int k1)]) d_law_132 (by decide) rfl ?_
        refine g_aload_n C d_law_134 rfl 2 rfl ?_
        refine g_aload_n C d_law_135 rfl 0 rfl ?_
        refine g_iload C d_law_136 4 rfl ?_
        refine g_iconst C 1 d_law_138 (by decide) ?_
        refine g_iadd C d_law_139 ?_
        refine g_sld C hs hv1 d_law_140 ?_
        refine g_aload_n C d_law_141 rfl 0 rfl ?_
        refine g_iload C d_law_142 4 rfl ?_
        refine g_iconst C 2 d_law_144 (by decide) ?_
        refine g_iadd C d_law_145 ?_
        refine g_sld C hs hv2 d_law_146 ?_
        refine g_aload_n C d_law_147 rfl 0 rfl ?_
        refine g_iload C d_law_148 4 rfl ?_
        refine g_iconst C 3 d_law_150 (by decide) ?_
        refine g_iadd C d_law_151 ?_
        refine g_sld C hs hv3 d_law_152 ?_
        refine g_aload_n C d_law_153 rfl 0 rfl ?_
        refine g_iload C d_law_154 4 rfl ?_
        refine g_iconst C 4 d_law_156 (by decide) ?_
        refine g_iadd C d_law_157 ?_
        refine g_sld C hs hv4 d_law_158 ?_
        refine g_callVp C (rest := []) (n := 4) (wr := wL ad X s1 f1) [22, 23, 24, 25, 26, 27, 28, 29, 30, 31, 32, 33, 34, 35, 36] [0, 1, 2, 3, 4, 5, 6, 7, 8, 9, 10, 11, 12, 13, 14, 15, 16, 17, 18, 19, 20, 21] rfl rfl rfl rfl (by decide) 22 (fun l => m_M_SpillQueueModel_format X am (xs (x4 + 1).toNatClampNeg) (xs (x4 + 2).toNatClampNeg) (xs (x4 + 3).toNatClampNeg) (xs (x4 + 4).toNatClampNeg) t _ h l) rfl rfl (gt 817 (by decide +kernel) rfl) cb_MO_format ⟨rfl, rfl⟩ (by rw [hRm]; decide) (by rw [hRm]; exact ⟨by show 37 + 2 * j + 1 ≤ 1074; omega, by show 17922 + 12 * j + 6 ≤ 26192; omega⟩) rfl rfl (Nat.le_of_ble_eq_true rfl) d_law_159 ?_
        rintro v u ⟨t1, rfl, rfl, h⟩
        refine g_w (ws2 := wA ad am X s1 f1 t1) rfl ?_
        show gW X E _ _ _ _ _ []
        refine g_aload_n C d_law_162 rfl 2 rfl ?_
        refine g_callVp C (rest := []) (wr := wL ad X s1 f1) [22, 23, 24, 25, 26, 27, 28, 29, 30, 31, 32, 33, 34, 35, 36] [0, 1, 2, 3, 4, 5, 6, 7, 8, 9, 10, 11, 12, 13, 14, 15, 16, 17, 18, 19, 20, 21] rfl rfl rfl rfl (by decide) 22 (fun l => m_M_SpillQueueModel_thrown X am t1 _ h l) rfl rfl (gt 813 (by decide +kernel) rfl) cb_MO_thrown ⟨rfl, rfl⟩ (by rw [hRm]; decide) (by rw [hRm]; exact ⟨by show 37 + 2 * j + 1 ≤ 1074; omega, by show 17922 + 12 * j + 6 ≤ 26192; omega⟩) rfl rfl (Nat.le_of_ble_eq_true rfl) d_law_163 ?_
        rintro v u ⟨th, t2, rfl, rfl, h⟩
        refine g_w (ws2 := wA ad am X s1 f1 t2) rfl ?_
        show gW X E _ _ _ _ _ [.int th]
        refine g_iload C d_law_166 5 rfl ?_
        refine g_icmp_eq C 173 d_law_168 (by decide) (fun _ => ?_) (fun c9 => absurd h.1 c9)
        have h := h.2
        refine g_goto C 733 d_law_173 (by decide) ?_
        refine g_lv C [0, 1, 2, 3, 4] rfl ?_
        exact htail _ _ s1 f1 t2 (by omega) (by omega) h
      by_cases c_1 : op = 1
      · refine g_tableIn C 176 d_law_39 (by rw [c_1]; decide) (by rw [c_1]; decide) (by rw [c_1]; rfl) (by decide) ?_
        have h := hinsert (xs (x4 + 1).toNatClampNeg) 0 0 0 s f t hR
        have h : wp_L_insert (xs (x4 + 1).toNatClampNeg) s f (fun k1 s1 f1 => wp_M_SpillQueueModel_insert (xs (x4 + 1).toNatClampNeg) t (fun b1 t1 => wp_M_SpillQueueModel_thrown t1 (fun th t2 => th = k1 ∧ ((¬ k1 = 0 → Rel s1 t2) ∧ (k1 = 0 → lg_cmp (f1 (0 : Int32).toNatClampNeg) b1.toInt64 = 0 ∧ Rel s1 t2))))) := h
        refine g_aload_n C d_law_176 rfl 1 rfl ?_
        refine g_aload_n C d_law_177 rfl 0 rfl ?_
        refine g_iload C d_law_178 4 rfl ?_
        refine g_iconst C 1 d_law_180 (by decide) ?_
        refine g_iadd C d_law_181 ?_
        refine g_sld C hs hv1 d_law_182 ?_
        refine g_aload_n C d_law_183 rfl 3 rfl ?_
        refine g_callSw C hs (rest := []) (n := 3) (wr := wM am X t) [0, 1, 2, 3, 4, 5, 6, 7, 8, 9, 10, 11, 12, 13, 14, 15, 16, 17, 18, 19, 20, 21] [22, 23, 24, 25, 26, 27, 28, 29, 30, 31, 32, 33, 34, 35, 36] rfl rfl rfl rfl (by decide) (fun l hl => m_L_insert X ad (xs (x4 + 1).toNatClampNeg) s f _ h l hl) (gt 413 (by decide +kernel) rfl) (gt 414 (by decide +kernel) rfl) (gt 86 (by decide +kernel) rfl) (gt 415 rfl rfl) (by decide +kernel) ⟨rfl, rfl⟩ (by rw [hRm]; decide) (by rw [hRm]; exact ⟨by show 37 + 2 * j + 2 ≤ 1074; omega, by show 17922 + 12 * j + 12 ≤ 26192; omega⟩) rfl rfl (Nat.le_of_ble_eq_true rfl) d_law_184 ?_
        rintro v u ⟨k1, s1, f1, rfl, rfl, h⟩
        refine g_perm (ws2 := wA ad am X s1 f1 t) [15, 16, 17, 18, 19, 20, 21, 22, 23, 24, 25, 26, 27, 28, 29, 30, 31, 32, 33, 34, 35, 36, 0, 1, 2, 3, 4, 5, 6, 7, 8, 9, 10, 11, 12, 13, 14] rfl rfl ?_
        show gW X E _ _ _ _ _ [.int k1]
        refine g_istore C (lv2 := [(0, .ref b), (1, .ref (ad 0)), (2, .ref (am 0)), (3, .ref (ad 21)), (4, .int x4), (5, .int k1)]) d_law_187 (by decide) rfl ?_
        refine g_aload_n C d_law_189 rfl 2 rfl ?_
        refine g_aload_n C d_law_190 rfl 0 rfl ?_
        refine g_iload C d_law_191 4 rfl ?_
        refine g_iconst C 1 d_law_193 (by decide) ?_
        refine g_iadd C d_law_194 ?_
        refine g_sld C hs hv1 d_law_195 ?_
        refine g_callVp C (rest := []) (n := 1) (wr := wL ad X s1 f1) [22, 23, 24, 25, 26, 27, 28, 29, 30, 31, 32, 33, 34, 35, 36] [0, 1, 2, 3, 4, 5, 6, 7, 8, 9, 10, 11, 12, 13, 14, 15, 16, 17, 18, 19, 20, 21] rfl rfl rfl rfl (by decide) 22 (fun l => m_M_SpillQueueModel_insert X am (xs (x4 + 1).toNatClampNeg) t _ h l) rfl rfl (gt 856 (by decide +kernel) rfl) cb_MO_insert ⟨rfl, rfl⟩ (by rw [hRm]; decide) (by rw [hRm]; exact ⟨by show 37 + 2 * j + 2 ≤ 1074; omega, by show 17922 + 12 * j + 12 ≤ 26192; omega⟩) rfl rfl (Nat.le_of_ble_eq_true rfl) d_law_196 ?_
        rintro v u ⟨b1, t1, rfl, rfl, h⟩
        refine g_w (ws2 := wA ad am X s1 f1 t1) rfl ?_
        show gW X E _ _ _ _ _ [.int b1]
        refine g_istore C (lv2 := [(0, .ref b), (1, .ref (ad 0)), (2, .ref (am 0)), (3, .ref (ad 21)), (4, .int x4), (5, .int k1), (6, .int b1)]) d_law_199 (by decide) rfl ?_
        refine g_aload_n C d_law_201 rfl 2 rfl ?_
        refine g_callVp C (rest := []) (wr := wL ad X s1 f1) [22, 23, 24, 25, 26, 27, 28, 29, 30, 31, 32, 33, 34, 35, 36] [0, 1, 2, 3, 4, 5, 6, 7, 8, 9, 10, 11, 12, 13, 14, 15, 16, 17, 18, 19, 20, 21] rfl rfl rfl rfl (by decide) 22 (fun l => m_M_SpillQueueModel_thrown X am t1 _ h l) rfl rfl (gt 813 (by decide +kernel) rfl) cb_MO_thrown ⟨rfl, rfl⟩ (by rw [hRm]; decide) (by rw [hRm]; exact ⟨by show 37 + 2 * j + 2 ≤ 1074; omega, by show 17922 + 12 * j + 12 ≤ 26192; omega⟩) rfl rfl (Nat.le_of_ble_eq_true rfl) d_law_202 ?_
        rintro v u ⟨th, t2, rfl, rfl, h⟩
        refine g_w (ws2 := wA ad am X s1 f1 t2) rfl ?_
        show gW X E _ _ _ _ _ [.int th]
        refine g_iload C d_law_205 5 rfl ?_
        refine g_icmp_eq C 212 d_law_207 (by decide) (fun _ => ?_) (fun c9 => absurd h.1 c9)
        have h := h.2
        refine g_iload C d_law_212 5 rfl ?_
        refine g_if_ne C 229 d_law_214 (by decide) (fun c1 => ?_) (fun c1 => ?_)
        · have h := h.1 c1
          refine g_goto C 733 d_law_229 (by decide) ?_
          refine g_lv C [0, 1, 2, 3, 4] rfl ?_
          exact htail _ _ s1 f1 t2 (by omega) (by omega) h
        · have h := h.2 c1
          refine g_aload_n C d_law_217 rfl 3 rfl ?_
          refine g_iconst C 0 d_law_218 (by decide) ?_
          refine g_lald C 21 2 rfl rfl vp_in_01 d_law_219 ?_
          refine g_iload C d_law_220 6 rfl ?_
          refine g_i2l C d_law_222 ?_
          refine g_lcmp C d_law_223 ?_
          refine g_if_eq C 229 d_law_224 (by decide) (fun _ => ?_) (fun c9 => absurd h.1 c9)
          refine g_goto C 733 d_law_229 (by decide) ?_
          refine g_lv C [0, 1, 2, 3, 4] rfl ?_
          exact htail _ _ s1 f1 t2 (by omega) (by omega) h.2
      by_cases c_2 : op = 2
      · refine g_tableIn C 232 d_law_39 (by rw [c_2]; decide) (by rw [c_2]; decide) (by rw [c_2]; rfl) (by decide) ?_
        have h := hmin 0 0 0 0 s f t hR
        have h : wp_L_min  s f (fun k1 s1 f1 => wp_M_SpillQueueModel_min  t (fun b1 t1 => wp_M_SpillQueueModel_thrown t1 (fun th t2 => th = k1 ∧ ((¬ k1 = 0 → Rel s1 t2) ∧ (k1 = 0 → lg_cmp (f1 (0 : Int32).toNatClampNeg) b1.toInt64 = 0 ∧ Rel s1 t2))))) := h
        refine g_aload_n C d_law_232 rfl 1 rfl ?_
        refine g_aload_n C d_law_233 rfl 3 rfl ?_
        refine g_callSw C hs (rest := []) (n := 2) (wr := wM am X t) [0, 1, 2, 3, 4, 5, 6, 7, 8, 9, 10, 11, 12, 13, 14, 15, 16, 17, 18, 19, 20, 21] [22, 23, 24, 25, 26, 27, 28, 29, 30, 31, 32, 33, 34, 35, 36] rfl rfl rfl rfl (by decide) (fun l hl => m_L_min X ad  s f _ h l hl) (gt 558 (by decide +kernel) rfl) (gt 559 (by decide +kernel) rfl) (gt 86 (by decide +kernel) rfl) (gt 560 rfl rfl) (by decide +kernel) ⟨rfl, rfl⟩ (by rw [hRm]; decide) (by rw [hRm]; exact ⟨by show 37 + 2 * j + 1 ≤ 1074; omega, by show 17922 + 12 * j + 6 ≤ 26192; omega⟩) rfl rfl (Nat.le_of_ble_eq_true rfl) d_law_234 ?_
        rintro v u ⟨k1, s1, f1, rfl, rfl, h⟩
        refine g_perm (ws2 := wA ad am X s1 f1 t) [15, 16, 17, 18, 19, 20, 21, 22, 23, 24, 25, 26, 27, 28, 29, 30, 31, 32, 33, 34, 35, 36, 0, 1, 2, 3, 4, 5, 6, 7, 8, 9, 10, 11, 12, 13, 14] rfl rfl ?_
        show gW X E _ _ _ _ _ [.int k1]
        refine g_istore C (lv2 := [(0, .ref b), (1, .ref (ad 0)), (2, .ref (am 0)), (3, .ref (ad 21)), (4, .int x4), (5, .int k1)]) d_law_237 (by decide) rfl ?_
        refine g_aload_n C d_law_239 rfl 2 rfl ?_
        refine g_callVp C (rest := []) (n := 0) (wr := wL ad X s1 f1) [22, 23, 24, 25, 26, 27, 28, 29, 30, 31, 32, 33, 34, 35, 36] [0, 1, 2, 3, 4, 5, 6, 7, 8, 9, 10, 11, 12, 13, 14, 15, 16, 17, 18, 19, 20, 21] rfl rfl rfl rfl (by decide) 22 (fun l => m_M_SpillQueueModel_min X am  t _ h l) rfl rfl (gt 928 (by decide +kernel) rfl) cb_MO_min ⟨rfl, rfl⟩ (by rw [hRm]; decide) (by rw [hRm]; exact ⟨by show 37 + 2 * j + 1 ≤ 1074; omega, by show 17922 + 12 * j + 6 ≤ 26192; omega⟩) rfl rfl (Nat.le_of_ble_eq_true rfl) d_law_240 ?_
        rintro v u ⟨b1, t1, rfl, rfl, h⟩
        refine g_w (ws2 := wA ad am X s1 f1 t1) rfl ?_
        show gW X E _ _ _ _ _ [.int b1]
        refine g_istore C (lv2 := [(0, .ref b), (1, .ref (ad 0)), (2, .ref (am 0)), (3, .ref (ad 21)), (4, .int x4), (5, .int k1), (6, .int b1)]) d_law_243 (by decide) rfl ?_
        refine g_aload_n C d_law_245 rfl 2 rfl ?_
        refine g_callVp C (rest := []) (wr := wL ad X s1 f1) [22, 23, 24, 25, 26, 27, 28, 29, 30, 31, 32, 33, 34, 35, 36] [0, 1, 2, 3, 4, 5, 6, 7, 8, 9, 10, 11, 12, 13, 14, 15, 16, 17, 18, 19, 20, 21] rfl rfl rfl rfl (by decide) 22 (fun l => m_M_SpillQueueModel_thrown X am t1 _ h l) rfl rfl (gt 813 (by decide +kernel) rfl) cb_MO_thrown ⟨rfl, rfl⟩ (by rw [hRm]; decide) (by rw [hRm]; exact ⟨by show 37 + 2 * j + 1 ≤ 1074; omega, by show 17922 + 12 * j + 6 ≤ 26192; omega⟩) rfl rfl (Nat.le_of_ble_eq_true rfl) d_law_246 ?_
        rintro v u ⟨th, t2, rfl, rfl, h⟩
        refine g_w (ws2 := wA ad am X s1 f1 t2) rfl ?_
        show gW X E _ _ _ _ _ [.int th]
        refine g_iload C d_law_249 5 rfl ?_
        refine g_icmp_eq C 256 d_law_251 (by decide) (fun _ => ?_) (fun c9 => absurd h.1 c9)
        have h := h.2
        refine g_iload C d_law_256 5 rfl ?_
        refine g_if_ne C 273 d_law_258 (by decide) (fun c1 => ?_) (fun c1 => ?_)
        · have h := h.1 c1
          refine g_goto C 733 d_law_273 (by decide) ?_
          refine g_lv C [0, 1, 2, 3, 4] rfl ?_
          exact htail _ _ s1 f1 t2 (by omega) (by omega) h
        · have h := h.2 c1
          refine g_aload_n C d_law_261 rfl 3 rfl ?_
          refine g_iconst C 0 d_law_262 (by decide) ?_
          refine g_lald C 21 2 rfl rfl vp_in_01 d_law_263 ?_
          refine g_iload C d_law_264 6 rfl ?_
          refine g_i2l C d_law_266 ?_
          refine g_lcmp C d_law_267 ?_
          refine g_if_eq C 273 d_law_268 (by decide) (fun _ => ?_) (fun c9 => absurd h.1 c9)
          refine g_goto C 733 d_law_273 (by decide) ?_
          refine g_lv C [0, 1, 2, 3, 4] rfl ?_
          exact htail _ _ s1 f1 t2 (by omega) (by omega) h.2
      by_cases c_3 : op = 3
      · refine g_tableIn C 276 d_law_39 (by rw [c_3]; decide) (by rw [c_3]; decide) (by rw [c_3]; rfl) (by decide) ?_
        have h := htake 0 0 0 0 s f t hR
        have h : wp_L_take  s f (fun k1 s1 f1 => wp_M_SpillQueueModel_take  t (fun b1 t1 => wp_M_SpillQueueModel_thrown t1 (fun th t2 => th = k1 ∧ ((¬ k1 = 0 → Rel s1 t2) ∧ (k1 = 0 → lg_cmp (f1 (0 : Int32).toNatClampNeg) b1.toInt64 = 0 ∧ Rel s1 t2))))) := h
        refine g_aload_n C d_law_276 rfl 1 rfl ?_
        refine g_aload_n C d_law_277 rfl 3 rfl ?_
        refine g_callSw C hs (rest := []) (n := 2) (wr := wM am X t) [0, 1, 2, 3, 4, 5, 6, 7, 8, 9, 10, 11, 12, 13, 14, 15, 16, 17, 18, 19, 20, 21] [22, 23, 24, 25, 26, 27, 28, 29, 30, 31, 32, 33, 34, 35, 36] rfl rfl rfl rfl (by decide) (fun l hl => m_L_take X ad  s f _ h l hl) (gt 575 (by decide +kernel) rfl) (gt 576 (by decide +kernel) rfl) (gt 86 (by decide +kernel) rfl) (gt 577 rfl rfl) (by decide +kernel) ⟨rfl, rfl⟩ (by rw [hRm]; decide) (by rw [hRm]; exact ⟨by show 37 + 2 * j + 1 ≤ 1074; omega, by show 17922 + 12 * j + 6 ≤ 26192; omega⟩) rfl rfl (Nat.le_of_ble_eq_true rfl) d_law_278 ?_
        rintro v u ⟨k1, s1, f1, rfl, rfl, h⟩
        refine g_perm (ws2 := wA ad am X s1 f1 t) [15, 16, 17, 18, 19, 20, 21, 22, 23, 24, 25, 26, 27, 28, 29, 30, 31, 32, 33, 34, 35, 36, 0, 1, 2, 3, 4, 5, 6, 7, 8, 9, 10, 11, 12, 13, 14] rfl rfl ?_
        show gW X E _ _ _ _ _ [.int k1]
        refine g_istore C (lv2 := [(0, .ref b), (1, .ref (ad 0)), (2, .ref (am 0)), (3, .ref (ad 21)), (4, .int x4), (5, .int k1)]) d_law_281 (by decide) rfl ?_
        refine g_aload_n C d_law_283 rfl 2 rfl ?_
        refine g_callVp C (rest := []) (n := 0) (wr := wL ad X s1 f1) [22, 23, 24, 25, 26, 27, 28, 29, 30, 31, 32, 33, 34, 35, 36] [0, 1, 2, 3, 4, 5, 6, 7, 8, 9, 10, 11, 12, 13, 14, 15, 16, 17, 18, 19, 20, 21] rfl rfl rfl rfl (by decide) 22 (fun l => m_M_SpillQueueModel_take X am  t _ h l) rfl rfl (gt 948 (by decide +kernel) rfl) cb_MO_take ⟨rfl, rfl⟩ (by rw [hRm]; decide) (by rw [hRm]; exact ⟨by show 37 + 2 * j + 1 ≤ 1074; omega, by show 17922 + 12 * j + 6 ≤ 26192; omega⟩) rfl rfl (Nat.le_of_ble_eq_true rfl) d_law_284 ?_
        rintro v u ⟨b1, t1, rfl, rfl, h⟩
        refine g_w (ws2 := wA ad am X s1 f1 t1) rfl ?_
        show gW X E _ _ _ _ _ [.int b1]
        refine g_istore C (lv2 := [(0, .ref b), (1, .ref (ad 0)), (2, .ref (am 0)), (3, .ref (ad 21)), (4, .int x4), (5, .int k1), (6, .int b1)]) d_law_287 (by decide) rfl ?_
        refine g_aload_n C d_law_289 rfl 2 rfl ?_
        refine g_callVp C (rest := []) (wr := wL ad X s1 f1) [22, 23, 24, 25, 26, 27, 28, 29, 30, 31, 32, 33, 34, 35, 36] [0, 1, 2, 3, 4, 5, 6, 7, 8, 9, 10, 11, 12, 13, 14, 15, 16, 17, 18, 19, 20, 21] rfl rfl rfl rfl (by decide) 22 (fun l => m_M_SpillQueueModel_thrown X am t1 _ h l) rfl rfl (gt 813 (by decide +kernel) rfl) cb_MO_thrown ⟨rfl, rfl⟩ (by rw [hRm]; decide) (by rw [hRm]; exact ⟨by show 37 + 2 * j + 1 ≤ 1074; omega, by show 17922 + 12 * j + 6 ≤ 26192; omega⟩) rfl rfl (Nat.le_of_ble_eq_true rfl) d_law_290 ?_
        rintro v u ⟨th, t2, rfl, rfl, h⟩
        refine g_w (ws2 := wA ad am X s1 f1 t2) rfl ?_
        show gW X E _ _ _ _ _ [.int th]
        refine g_iload C d_law_293 5 rfl ?_
        refine g_icmp_eq C 300 d_law_295 (by decide) (fun _ => ?_) (fun c9 => absurd h.1 c9)
        have h := h.2
        refine g_iload C d_law_300 5 rfl ?_
        refine g_if_ne C 317 d_law_302 (by decide) (fun c1 => ?_) (fun c1 => ?_)
        · have h := h.1 c1
          refine g_goto C 733 d_law_317 (by decide) ?_
          refine g_lv C [0, 1, 2, 3, 4] rfl ?_
          exact htail _ _ s1 f1 t2 (by omega) (by omega) h
        · have h := h.2 c1
          refine g_aload_n C d_law_305 rfl 3 rfl ?_
          refine g_iconst C 0 d_law_306 (by decide) ?_
          refine g_lald C 21 2 rfl rfl vp_in_01 d_law_307 ?_
          refine g_iload C d_law_308 6 rfl ?_
          refine g_i2l C d_law_310 ?_
          refine g_lcmp C d_law_311 ?_
          refine g_if_eq C 317 d_law_312 (by decide) (fun _ => ?_) (fun c9 => absurd h.1 c9)
          refine g_goto C 733 d_law_317 (by decide) ?_
          refine g_lv C [0, 1, 2, 3, 4] rfl ?_
          exact htail _ _ s1 f1 t2 (by omega) (by omega) h.2
      by_cases c_4 : op = 4
      · refine g_tableIn C 320 d_law_39 (by rw [c_4]; decide) (by rw [c_4]; decide) (by rw [c_4]; rfl) (by decide) ?_
        have h := hsync 0 0 0 0 s f t hR
        have h : wp_L_sync  s f (fun k1 s1 f1 => wp_M_SpillQueueModel_sync  t (fun b1 t1 => wp_M_SpillQueueModel_thrown t1 (fun th t2 => th = k1 ∧ ((¬ k1 = 0 → Rel s1 t2) ∧ (k1 = 0 → lg_cmp (f1 (0 : Int32).toNatClampNeg) b1.toInt64 = 0 ∧ Rel s1 t2))))) := h
        refine g_aload_n C d_law_320 rfl 1 rfl ?_
        refine g_aload_n C d_law_321 rfl 3 rfl ?_
        refine g_callSw C hs (rest := []) (n := 2) (wr := wM am X t) [0, 1, 2, 3, 4, 5, 6, 7, 8, 9, 10, 11, 12, 13, 14, 15, 16, 17, 18, 19, 20, 21] [22, 23, 24, 25, 26, 27, 28, 29, 30, 31, 32, 33, 34, 35, 36] rfl rfl rfl rfl (by decide) (fun l hl => m_L_sync X ad  s f _ h l hl) (gt 584 (by decide +kernel) rfl) (gt 585 (by decide +kernel) rfl) (gt 86 (by decide +kernel) rfl) (gt 586 rfl rfl) (by decide +kernel) ⟨rfl, rfl⟩ (by rw [hRm]; decide) (by rw [hRm]; exact ⟨by show 37 + 2 * j + 1 ≤ 1074; omega, by show 17922 + 12 * j + 6 ≤ 26192; omega⟩) rfl rfl (Nat.le_of_ble_eq_true rfl) d_law_322 ?_
        rintro v u ⟨k1, s1, f1, rfl, rfl, h⟩
        refine g_perm (ws2 := wA ad am X s1 f1 t) [15, 16, 17, 18, 19, 20, 21, 22, 23, 24, 25, 26, 27, 28, 29, 30, 31, 32, 33, 34, 35, 36, 0, 1, 2, 3, 4, 5, 6, 7, 8, 9, 10, 11, 12, 13, 14] rfl rfl ?_
        show gW X E _ _ _ _ _ [.int k1]
        refine g_istore C (lv2 := [(0, .ref b), (1, .ref (ad 0)), (2, .ref (am 0)), (3, .ref (ad 21)), (4, .int x4), (5, .int k1)]) d_law_325 (by decide) rfl ?_
        refine g_aload_n C d_law_327 rfl 2 rfl ?_
        refine g_callVp C (rest := []) (n := 0) (wr := wL ad X s1 f1) [22, 23, 24, 25, 26, 27, 28, 29, 30, 31, 32, 33, 34, 35, 36] [0, 1, 2, 3, 4, 5, 6, 7, 8, 9, 10, 11, 12, 13, 14, 15, 16, 17, 18, 19, 20, 21] rfl rfl rfl rfl (by decide) 22 (fun l => m_M_SpillQueueModel_sync X am  t _ h l) rfl rfl (gt 952 (by decide +kernel) rfl) cb_MO_sync ⟨rfl, rfl⟩ (by rw [hRm]; decide) (by rw [hRm]; exact ⟨by show 37 + 2 * j + 1 ≤ 1074; omega, by show 17922 + 12 * j + 6 ≤ 26192; omega⟩) rfl rfl (Nat.le_of_ble_eq_true rfl) d_law_328 ?_
        rintro v u ⟨b1, t1, rfl, rfl, h⟩
        refine g_w (ws2 := wA ad am X s1 f1 t1) rfl ?_
        show gW X E _ _ _ _ _ [.int b1]
        refine g_istore C (lv2 := [(0, .ref b), (1, .ref (ad 0)), (2, .ref (am 0)), (3, .ref (ad 21)), (4, .int x4), (5, .int k1), (6, .int b1)]) d_law_331 (by decide) rfl ?_
        refine g_aload_n C d_law_333 rfl 2 rfl ?_
        refine g_callVp C (rest := []) (wr := wL ad X s1 f1) [22, 23, 24, 25, 26, 27, 28, 29, 30, 31, 32, 33, 34, 35, 36] [0, 1, 2, 3, 4, 5, 6, 7, 8, 9, 10, 11, 12, 13, 14, 15, 16, 17, 18, 19, 20, 21] rfl rfl rfl rfl (by decide) 22 (fun l => m_M_SpillQueueModel_thrown X am t1 _ h l) rfl rfl (gt 813 (by decide +kernel) rfl) cb_MO_thrown ⟨rfl, rfl⟩ (by rw [hRm]; decide) (by rw [hRm]; exact ⟨by show 37 + 2 * j + 1 ≤ 1074; omega, by show 17922 + 12 * j + 6 ≤ 26192; omega⟩) rfl rfl (Nat.le_of_ble_eq_true rfl) d_law_334 ?_
        rintro v u ⟨th, t2, rfl, rfl, h⟩
        refine g_w (ws2 := wA ad am X s1 f1 t2) rfl ?_
        show gW X E _ _ _ _ _ [.int th]
        refine g_iload C d_law_337 5 rfl ?_
        refine g_icmp_eq C 344 d_law_339 (by decide) (fun _ => ?_) (fun c9 => absurd h.1 c9)
        have h := h.2
        refine g_iload C d_law_344 5 rfl ?_
        refine g_if_ne C 361 d_law_346 (by decide) (fun c1 => ?_) (fun c1 => ?_)
        · have h := h.1 c1
          refine g_goto C 733 d_law_361 (by decide) ?_
          refine g_lv C [0, 1, 2, 3, 4] rfl ?_
          exact htail _ _ s1 f1 t2 (by omega) (by omega) h
        · have h := h.2 c1
          refine g_aload_n C d_law_349 rfl 3 rfl ?_
          refine g_iconst C 0 d_law_350 (by decide) ?_
          refine g_lald C 21 2 rfl rfl vp_in_01 d_law_351 ?_
          refine g_iload C d_law_352 6 rfl ?_
          refine g_i2l C d_law_354 ?_
          refine g_lcmp C d_law_355 ?_
          refine g_if_eq C 361 d_law_356 (by decide) (fun _ => ?_) (fun c9 => absurd h.1 c9)
          refine g_goto C 733 d_law_361 (by decide) ?_
          refine g_lv C [0, 1, 2, 3, 4] rfl ?_
          exact htail _ _ s1 f1 t2 (by omega) (by omega) h.2
      by_cases c_5 : op = 5
      · refine g_tableIn C 364 d_law_39 (by rw [c_5]; decide) (by rw [c_5]; decide) (by rw [c_5]; rfl) (by decide) ?_
        have h := hcutAt (xs (x4 + 1).toNatClampNeg) 0 0 0 s f t hR
        have h : wp_L_cutAt (xs (x4 + 1).toNatClampNeg) s f (fun k1 s1 f1 => wp_M_SpillQueueModel_cutAt (xs (x4 + 1).toNatClampNeg) t (fun t1 => wp_M_SpillQueueModel_thrown t1 (fun th t2 => th = k1 ∧ Rel s1 t2))) := h
        refine g_aload_n C d_law_364 rfl 1 rfl ?_
        refine g_aload_n C d_law_365 rfl 0 rfl ?_
        refine g_iload C d_law_366 4 rfl ?_
        refine g_iconst C 1 d_law_368 (by decide) ?_
        refine g_iadd C d_law_369 ?_
        refine g_sld C hs hv1 d_law_370 ?_
        refine g_callSw C hs (rest := []) (n := 2) (wr := wM am X t) [0, 1, 2, 3, 4, 5, 6, 7, 8, 9, 10, 11, 12, 13, 14, 15, 16, 17, 18, 19, 20, 21] [22, 23, 24, 25, 26, 27, 28, 29, 30, 31, 32, 33, 34, 35, 36] rfl rfl rfl rfl (by decide) (fun l hl => m_L_cutAt X ad (xs (x4 + 1).toNatClampNeg) s f _ h l hl) (gt 591 (by decide +kernel) rfl) (gt 592 (by decide +kernel) rfl) (gt 86 (by decide +kernel) rfl) (gt 593 rfl rfl) (by decide +kernel) ⟨rfl, rfl⟩ (by rw [hRm]; decide) (by rw [hRm]; exact ⟨by show 37 + 2 * j + 2 ≤ 1074; omega, by show 17922 + 12 * j + 12 ≤ 26192; omega⟩) rfl rfl (Nat.le_of_ble_eq_true rfl) d_law_371 ?_
        rintro v u ⟨k1, s1, f1, rfl, rfl, h⟩
        refine g_perm (ws2 := wA ad am X s1 f1 t) [15, 16, 17, 18, 19, 20, 21, 22, 23, 24, 25, 26, 27, 28, 29, 30, 31, 32, 33, 34, 35, 36, 0, 1, 2, 3, 4, 5, 6, 7, 8, 9, 10, 11, 12, 13, 14] rfl rfl ?_
        show gW X E _ _ _ _ _ [.int k1]
        refine g_istore C (lv2 := [(0, .ref b), (1, .ref (ad 0)), (2, .ref (am 0)), (3, .ref (ad 21)), (4, .int x4), (5, .int k1)]) d_law_374 (by decide) rfl ?_
        refine g_aload_n C d_law_376 rfl 2 rfl ?_
        refine g_aload_n C d_law_377 rfl 0 rfl ?_
        refine g_iload C d_law_378 4 rfl ?_
        refine g_iconst C 1 d_law_380 (by decide) ?_
        refine g_iadd C d_law_381 ?_
        refine g_sld C hs hv1 d_law_382 ?_
        refine g_callVp C (rest := []) (n := 1) (wr := wL ad X s1 f1) [22, 23, 24, 25, 26, 27, 28, 29, 30, 31, 32, 33, 34, 35, 36] [0, 1, 2, 3, 4, 5, 6, 7, 8, 9, 10, 11, 12, 13, 14, 15, 16, 17, 18, 19, 20, 21] rfl rfl rfl rfl (by decide) 22 (fun l => m_M_SpillQueueModel_cutAt X am (xs (x4 + 1).toNatClampNeg) t _ h l) rfl rfl (gt 956 (by decide +kernel) rfl) cb_MO_cutAt ⟨rfl, rfl⟩ (by rw [hRm]; decide) (by rw [hRm]; exact ⟨by show 37 + 2 * j + 2 ≤ 1074; omega, by show 17922 + 12 * j + 12 ≤ 26192; omega⟩) rfl rfl (Nat.le_of_ble_eq_true rfl) d_law_383 ?_
        rintro v u ⟨t1, rfl, rfl, h⟩
        refine g_w (ws2 := wA ad am X s1 f1 t1) rfl ?_
        show gW X E _ _ _ _ _ []
        refine g_aload_n C d_law_386 rfl 2 rfl ?_
        refine g_callVp C (rest := []) (wr := wL ad X s1 f1) [22, 23, 24, 25, 26, 27, 28, 29, 30, 31, 32, 33, 34, 35, 36] [0, 1, 2, 3, 4, 5, 6, 7, 8, 9, 10, 11, 12, 13, 14, 15, 16, 17, 18, 19, 20, 21] rfl rfl rfl rfl (by decide) 22 (fun l => m_M_SpillQueueModel_thrown X am t1 _ h l) rfl rfl (gt 813 (by decide +kernel) rfl) cb_MO_thrown ⟨rfl, rfl⟩ (by rw [hRm]; decide) (by rw [hRm]; exact ⟨by show 37 + 2 * j + 2 ≤ 1074; omega, by show 17922 + 12 * j + 12 ≤ 26192; omega⟩) rfl rfl (Nat.le_of_ble_eq_true rfl) d_law_387 ?_
        rintro v u ⟨th, t2, rfl, rfl, h⟩
        refine g_w (ws2 := wA ad am X s1 f1 t2) rfl ?_
        show gW X E _ _ _ _ _ [.int th]
        refine g_iload C d_law_390 5 rfl ?_
        refine g_icmp_eq C 397 d_law_392 (by decide) (fun _ => ?_) (fun c9 => absurd h.1 c9)
        have h := h.2
        refine g_goto C 733 d_law_397 (by decide) ?_
        refine g_lv C [0, 1, 2, 3, 4] rfl ?_
        exact htail _ _ s1 f1 t2 (by omega) (by omega) h
      by_cases c_6 : op = 6
      · refine g_tableIn C 400 d_law_39 (by rw [c_6]; decide) (by rw [c_6]; decide) (by rw [c_6]; rfl) (by decide) ?_
        have h := hcut 0 0 0 0 s f t hR
        have h : wp_L_cut  s f (fun k1 s1 f1 => wp_M_SpillQueueModel_cut  t (fun t1 => wp_M_SpillQueueModel_thrown t1 (fun th t2 => th = k1 ∧ Rel s1 t2))) := h
        refine g_aload_n C d_law_400 rfl 1 rfl ?_
        refine g_callSw C hs (rest := []) (n := 1) (wr := wM am X t) [0, 1, 2, 3, 4, 5, 6, 7, 8, 9, 10, 11, 12, 13, 14, 15, 16, 17, 18, 19, 20, 21] [22, 23, 24, 25, 26, 27, 28, 29, 30, 31, 32, 33, 34, 35, 36] rfl rfl rfl rfl (by decide) (fun l hl => m_L_cut X ad  s f _ h l hl) (gt 599 (by decide +kernel) rfl) (gt 600 (by decide +kernel) rfl) (gt 86 (by decide +kernel) rfl) (gt 601 rfl rfl) (by decide +kernel) ⟨rfl, rfl⟩ (by rw [hRm]; decide) (by rw [hRm]; exact ⟨by show 37 + 2 * j + 1 ≤ 1074; omega, by show 17922 + 12 * j + 6 ≤ 26192; omega⟩) rfl rfl (Nat.le_of_ble_eq_true rfl) d_law_401 ?_
        rintro v u ⟨k1, s1, f1, rfl, rfl, h⟩
        refine g_perm (ws2 := wA ad am X s1 f1 t) [15, 16, 17, 18, 19, 20, 21, 22, 23, 24, 25, 26, 27, 28, 29, 30, 31, 32, 33, 34, 35, 36, 0, 1, 2, 3, 4, 5, 6, 7, 8, 9, 10, 11, 12, 13, 14] rfl rfl ?_
        show gW X E _ _ _ _ _ [.int k1]
        refine g_istore C (lv2 := [(0, .ref b), (1, .ref (ad 0)), (2, .ref (am 0)), (3, .ref (ad 21)), (4, .int x4), (5, .int k1)]) d_law_404 (by decide) rfl ?_
        refine g_aload_n C d_law_406 rfl 2 rfl ?_
        refine g_callVp C (rest := []) (n := 0) (wr := wL ad X s1 f1) [22, 23, 24, 25, 26, 27, 28, 29, 30, 31, 32, 33, 34, 35, 36] [0, 1, 2, 3, 4, 5, 6, 7, 8, 9, 10, 11, 12, 13, 14, 15, 16, 17, 18, 19, 20, 21] rfl rfl rfl rfl (by decide) 22 (fun l => m_M_SpillQueueModel_cut X am  t _ h l) rfl rfl (gt 960 (by decide +kernel) rfl) cb_MO_cut ⟨rfl, rfl⟩ (by rw [hRm]; decide) (by rw [hRm]; exact ⟨by show 37 + 2 * j + 1 ≤ 1074; omega, by show 17922 + 12 * j + 6 ≤ 26192; omega⟩) rfl rfl (Nat.le_of_ble_eq_true rfl) d_law_407 ?_
        rintro v u ⟨t1, rfl, rfl, h⟩
        refine g_w (ws2 := wA ad am X s1 f1 t1) rfl ?_
        show gW X E _ _ _ _ _ []
        refine g_aload_n C d_law_410 rfl 2 rfl ?_
        refine g_callVp C (rest := []) (wr := wL ad X s1 f1) [22, 23, 24, 25, 26, 27, 28, 29, 30, 31, 32, 33, 34, 35, 36] [0, 1, 2, 3, 4, 5, 6, 7, 8, 9, 10, 11, 12, 13, 14, 15, 16, 17, 18, 19, 20, 21] rfl rfl rfl rfl (by decide) 22 (fun l => m_M_SpillQueueModel_thrown X am t1 _ h l) rfl rfl (gt 813 (by decide +kernel) rfl) cb_MO_thrown ⟨rfl, rfl⟩ (by rw [hRm]; decide) (by rw [hRm]; exact ⟨by show 37 + 2 * j + 1 ≤ 1074; omega, by show 17922 + 12 * j + 6 ≤ 26192; omega⟩) rfl rfl (Nat.le_of_ble_eq_true rfl) d_law_411 ?_
        rintro v u ⟨th, t2, rfl, rfl, h⟩
        refine g_w (ws2 := wA ad am X s1 f1 t2) rfl ?_
        show gW X E _ _ _ _ _ [.int th]
        refine g_iload C d_law_414 5 rfl ?_
        refine g_icmp_eq C 421 d_law_416 (by decide) (fun _ => ?_) (fun c9 => absurd h.1 c9)
        have h := h.2
        refine g_goto C 733 d_law_421 (by decide) ?_
        refine g_lv C [0, 1, 2, 3, 4] rfl ?_
        exact htail _ _ s1 f1 t2 (by omega) (by omega) h
      by_cases c_7 : op = 7
      · refine g_tableIn C 424 d_law_39 (by rw [c_7]; decide) (by rw [c_7]; decide) (by rw [c_7]; rfl) (by decide) ?_
        have h := hrecover 0 0 0 0 s f t hR
        have h : wp_L_recover  s f (fun k1 s1 f1 => wp_M_SpillQueueModel_recover  t (fun b1 t1 => wp_M_SpillQueueModel_thrown t1 (fun th t2 => th = k1 ∧ ((¬ k1 = 0 → Rel s1 t2) ∧ (k1 = 0 → lg_cmp (f1 (0 : Int32).toNatClampNeg) b1.toInt64 = 0 ∧ Rel s1 t2))))) := h
        refine g_aload_n C d_law_424 rfl 1 rfl ?_
        refine g_aload_n C d_law_425 rfl 3 rfl ?_
        refine g_callSw C hs (rest := []) (n := 2) (wr := wM am X t) [0, 1, 2, 3, 4, 5, 6, 7, 8, 9, 10, 11, 12, 13, 14, 15, 16, 17, 18, 19, 20, 21] [22, 23, 24, 25, 26, 27, 28, 29, 30, 31, 32, 33, 34, 35, 36] rfl rfl rfl rfl (by decide) (fun l hl => m_L_recover X ad  s f _ h l hl) (gt 611 (by decide +kernel) rfl) (gt 612 (by decide +kernel) rfl) (gt 86 (by decide +kernel) rfl) (gt 613 rfl rfl) (by decide +kernel) ⟨rfl, rfl⟩ (by rw [hRm]; decide) (by rw [hRm]; exact ⟨by show 37 + 2 * j + 1 ≤ 1074; omega, by show 17922 + 12 * j + 6 ≤ 26192; omega⟩) rfl rfl (Nat.le_of_ble_eq_true rfl) d_law_426 ?_
        rintro v u ⟨k1, s1, f1, rfl, rfl, h⟩
        refine g_perm (ws2 := wA ad am X s1 f1 t) [15, 16, 17, 18, 19, 20, 21, 22, 23, 24, 25, 26, 27, 28, 29, 30, 31, 32, 33, 34, 35, 36, 0, 1, 2, 3, 4, 5, 6, 7, 8, 9, 10, 11, 12, 13, 14] rfl rfl ?_
        show gW X E _ _ _ _ _ [.int k1]
        refine g_istore C (lv2 := [(0, .ref b), (1, .ref (ad 0)), (2, .ref (am 0)), (3, .ref (ad 21)), (4, .int x4), (5, .int k1)]) d_law_429 (by decide) rfl ?_
        refine g_aload_n C d_law_431 rfl 2 rfl ?_
        refine g_callVp C (rest := []) (n := 0) (wr := wL ad X s1 f1) [22, 23, 24, 25, 26, 27, 28, 29, 30, 31, 32, 33, 34, 35, 36] [0, 1, 2, 3, 4, 5, 6, 7, 8, 9, 10, 11, 12, 13, 14, 15, 16, 17, 18, 19, 20, 21] rfl rfl rfl rfl (by decide) 22 (fun l => m_M_SpillQueueModel_recover X am  t _ h l) rfl rfl (gt 964 (by decide +kernel) rfl) cb_MO_recover ⟨rfl, rfl⟩ (by rw [hRm]; decide) (by rw [hRm]; exact ⟨by show 37 + 2 * j + 1 ≤ 1074; omega, by show 17922 + 12 * j + 6 ≤ 26192; omega⟩) rfl rfl (Nat.le_of_ble_eq_true rfl) d_law_432 ?_
        rintro v u ⟨b1, t1, rfl, rfl, h⟩
        refine g_w (ws2 := wA ad am X s1 f1 t1) rfl ?_
        show gW X E _ _ _ _ _ [.int b1]
        refine g_istore C (lv2 := [(0, .ref b), (1, .ref (ad 0)), (2, .ref (am 0)), (3, .ref (ad 21)), (4, .int x4), (5, .int k1), (6, .int b1)]) d_law_435 (by decide) rfl ?_
        refine g_aload_n C d_law_437 rfl 2 rfl ?_
        refine g_callVp C (rest := []) (wr := wL ad X s1 f1) [22, 23, 24, 25, 26, 27, 28, 29, 30, 31, 32, 33, 34, 35, 36] [0, 1, 2, 3, 4, 5, 6, 7, 8, 9, 10, 11, 12, 13, 14, 15, 16, 17, 18, 19, 20, 21] rfl rfl rfl rfl (by decide) 22 (fun l => m_M_SpillQueueModel_thrown X am t1 _ h l) rfl rfl (gt 813 (by decide +kernel) rfl) cb_MO_thrown ⟨rfl, rfl⟩ (by rw [hRm]; decide) (by rw [hRm]; exact ⟨by show 37 + 2 * j + 1 ≤ 1074; omega, by show 17922 + 12 * j + 6 ≤ 26192; omega⟩) rfl rfl (Nat.le_of_ble_eq_true rfl) d_law_438 ?_
        rintro v u ⟨th, t2, rfl, rfl, h⟩
        refine g_w (ws2 := wA ad am X s1 f1 t2) rfl ?_
        show gW X E _ _ _ _ _ [.int th]
        refine g_iload C d_law_441 5 rfl ?_
        refine g_icmp_eq C 448 d_law_443 (by decide) (fun _ => ?_) (fun c9 => absurd h.1 c9)
        have h := h.2
        refine g_iload C d_law_448 5 rfl ?_
        refine g_if_ne C 465 d_law_450 (by decide) (fun c1 => ?_) (fun c1 => ?_)
        · have h := h.1 c1
          refine g_goto C 733 d_law_465 (by decide) ?_
          refine g_lv C [0, 1, 2, 3, 4] rfl ?_
          exact htail _ _ s1 f1 t2 (by omega) (by omega) h
        · have h := h.2 c1
          refine g_aload_n C d_law_453 rfl 3 rfl ?_
          refine g_iconst C 0 d_law_454 (by decide) ?_
          refine g_lald C 21 2 rfl rfl vp_in_01 d_law_455 ?_
          refine g_iload C d_law_456 6 rfl ?_
          refine g_i2l C d_law_458 ?_
          refine g_lcmp C d_law_459 ?_
          refine g_if_eq C 465 d_law_460 (by decide) (fun _ => ?_) (fun c9 => absurd h.1 c9)
          refine g_goto C 733 d_law_465 (by decide) ?_
          refine g_lv C [0, 1, 2, 3, 4] rfl ?_
          exact htail _ _ s1 f1 t2 (by omega) (by omega) h.2
      by_cases c_8 : op = 8
      · refine g_tableIn C 468 d_law_39 (by rw [c_8]; decide) (by rw [c_8]; decide) (by rw [c_8]; rfl) (by decide) ?_
        have h := hsize 0 0 0 0 s f t hR
        have h : wp_SpillQueue_size s (fun r1 s1 => wp_M_SpillQueueModel_size t (fun r2 t1 => r1 = r2 ∧ Rel s1 t1)) := h
        refine g_aload_n C d_law_468 rfl 1 rfl ?_
        refine g_callVp C (rest := []) (wr := [(ad 21, .inl (X.2.2.2, 1, .inr (.inl f)))] ++ wM am X t) [0, 1, 2, 3, 4, 5, 6, 7, 8, 9, 10, 11, 12, 13, 14, 15, 16, 17, 18, 19, 20] [21, 22, 23, 24, 25, 26, 27, 28, 29, 30, 31, 32, 33, 34, 35, 36] rfl rfl rfl rfl (by decide) 0 (fun l => m_SpillQueue_size X ad s _ h l) rfl rfl (gt 260 (by decide +kernel) rfl) cb_SQ_size ⟨rfl, rfl⟩ (by rw [hRm]; decide) (by rw [hRm]; exact ⟨by show 37 + 2 * j ≤ 1074; omega, by show 17922 + 12 * j ≤ 26192; omega⟩) rfl rfl (Nat.le_of_ble_eq_true rfl) d_law_469 ?_
        rintro v u ⟨r1, s1, rfl, rfl, h⟩
        refine g_perm (ws2 := wA ad am X s1 f t) [16, 17, 18, 19, 20, 21, 22, 23, 24, 25, 26, 27, 28, 29, 30, 31, 32, 33, 34, 35, 36, 0, 1, 2, 3, 4, 5, 6, 7, 8, 9, 10, 11, 12, 13, 14, 15] rfl rfl ?_
        show gW X E _ _ _ _ _ [.int r1]
        refine g_aload_n C d_law_472 rfl 2 rfl ?_
        refine g_callVp C (rest := [.int r1]) (wr := wL ad X s1 f) [22, 23, 24, 25, 26, 27, 28, 29, 30, 31, 32, 33, 34, 35, 36] [0, 1, 2, 3, 4, 5, 6, 7, 8, 9, 10, 11, 12, 13, 14, 15, 16, 17, 18, 19, 20, 21] rfl rfl rfl rfl (by decide) 22 (fun l => m_M_SpillQueueModel_size X am t _ h l) rfl rfl (gt 980 (by decide +kernel) rfl) cb_MO_size ⟨rfl, rfl⟩ (by rw [hRm]; decide) (by rw [hRm]; exact ⟨by show 37 + 2 * j ≤ 1074; omega, by show 17922 + 12 * j ≤ 26192; omega⟩) rfl rfl (Nat.le_of_ble_eq_true rfl) d_law_473 ?_
        rintro v u ⟨r2, t1, rfl, rfl, h⟩
        refine g_w (ws2 := wA ad am X s1 f t1) rfl ?_
        show gW X E _ _ _ _ _ [.int r2, .int r1]
        refine g_icmp_eq C 733 d_law_476 (by decide) (fun _ => ?_) (fun c9 => absurd h.1 c9)
        exact htail _ _ s1 f t1 (by omega) (by omega) h.2
      by_cases c_9 : op = 9
      · refine g_tableIn C 481 d_law_39 (by rw [c_9]; decide) (by rw [c_9]; decide) (by rw [c_9]; rfl) (by decide) ?_
        have h := hrun (xs (x4 + 1).toNatClampNeg) (xs (x4 + 2).toNatClampNeg) 0 0 s f t hR
        have h : wp_L_run (xs (x4 + 1).toNatClampNeg) (xs (x4 + 2).toNatClampNeg) s f (fun k1 s1 f1 => wp_M_SpillQueueModel_run (xs (x4 + 1).toNatClampNeg) (xs (x4 + 2).toNatClampNeg) t (fun b1 t1 => wp_M_SpillQueueModel_thrown t1 (fun th t2 => th = k1 ∧ ((¬ k1 = 0 → Rel s1 t2) ∧ (k1 = 0 → lg_cmp (f1 (0 : Int32).toNatClampNeg) b1.toInt64 = 0 ∧ Rel s1 t2))))) := h
        refine g_aload_n C d_law_481 rfl 1 rfl ?_
        refine g_aload_n C d_law_482 rfl 0 rfl ?_
        refine g_iload C d_law_483 4 rfl ?_
        refine g_iconst C 1 d_law_485 (by decide) ?_
        refine g_iadd C d_law_486 ?_
        refine g_sld C hs hv1 d_law_487 ?_
        refine g_aload_n C d_law_488 rfl 0 rfl ?_
        refine g_iload C d_law_489 4 rfl ?_
        refine g_iconst C 2 d_law_491 (by decide) ?_
        refine g_iadd C d_law_492 ?_
        refine g_sld C hs hv2 d_law_493 ?_
        refine g_aload_n C d_law_494 rfl 3 rfl ?_
        refine g_callSw C hs (rest := []) (n := 4) (wr := wM am X t) [0, 1, 2, 3, 4, 5, 6, 7, 8, 9, 10, 11, 12, 13, 14, 15, 16, 17, 18, 19, 20, 21] [22, 23, 24, 25, 26, 27, 28, 29, 30, 31, 32, 33, 34, 35, 36] rfl rfl rfl rfl (by decide) (fun l hl => m_L_run X ad (xs (x4 + 1).toNatClampNeg) (xs (x4 + 2).toNatClampNeg) s f _ h l hl) (gt 661 (by decide +kernel) rfl) (gt 662 (by decide +kernel) rfl) (gt 86 (by decide +kernel) rfl) (gt 663 rfl rfl) (by decide +kernel) ⟨rfl, rfl⟩ (by rw [hRm]; decide) (by rw [hRm]; exact ⟨by show 37 + 2 * j + 2 ≤ 1074; omega, by show 17922 + 12 * j + 12 ≤ 26192; omega⟩) rfl rfl (Nat.le_of_ble_eq_true rfl) d_law_495 ?_
        rintro v u ⟨k1, s1, f1, rfl, rfl, h⟩
        refine g_perm (ws2 := wA ad am X s1 f1 t) [15, 16, 17, 18, 19, 20, 21, 22, 23, 24, 25, 26, 27, 28, 29, 30, 31, 32, 33, 34, 35, 36, 0, 1, 2, 3, 4, 5, 6, 7, 8, 9, 10, 11, 12, 13, 14] rfl rfl ?_
        show gW X E _ _ _ _ _ [.int k1]
        refine g_istore C (lv2 := [(0, .ref b), (1, .ref (ad 0)), (2, .ref (am 0)), (3, .ref (ad 21)), (4, .int x4), (5, .int k1)]) d_law_498 (by decide) rfl ?_
        refine g_aload_n C d_law_500 rfl 2 rfl ?_
        refine g_aload_n C d_law_501 rfl 0 rfl ?_
        refine g_iload C d_law_502 4 rfl ?_
        refine g_iconst C 1 d_law_504 (by decide) ?_
        refine g_iadd C d_law_505 ?_
        refine g_sld C hs hv1 d_law_506 ?_
        refine g_aload_n C d_law_507 rfl 0 rfl ?_
        refine g_iload C d_law_508 4 rfl ?_
        refine g_iconst C 2 d_law_510 (by decide) ?_
        refine g_iadd C d_law_511 ?_
        refine g_sld C hs hv2 d_law_512 ?_
        refine g_callVp C (rest := []) (n := 2) (wr := wL ad X s1 f1) [22, 23, 24, 25, 26, 27, 28, 29, 30, 31, 32, 33, 34, 35, 36] [0, 1, 2, 3, 4, 5, 6, 7, 8, 9, 10, 11, 12, 13, 14, 15, 16, 17, 18, 19, 20, 21] rfl rfl rfl rfl (by decide) 22 (fun l => m_M_SpillQueueModel_run X am (xs (x4 + 1).toNatClampNeg) (xs (x4 + 2).toNatClampNeg) t _ h l) rfl rfl (gt 984 (by decide +kernel) rfl) cb_MO_run ⟨rfl, rfl⟩ (by rw [hRm]; decide) (by rw [hRm]; exact ⟨by show 37 + 2 * j + 2 ≤ 1074; omega, by show 17922 + 12 * j + 12 ≤ 26192; omega⟩) rfl rfl (Nat.le_of_ble_eq_true rfl) d_law_513 ?_
        rintro v u ⟨b1, t1, rfl, rfl, h⟩
        refine g_w (ws2 := wA ad am X s1 f1 t1) rfl ?_
        show gW X E _ _ _ _ _ [.int b1]
        refine g_istore C (lv2 := [(0, .ref b), (1, .ref (ad 0)), (2, .ref (am 0)), (3, .ref (ad 21)), (4, .int x4), (5, .int k1), (6, .int b1)]) d_law_516 (by decide) rfl ?_
        refine g_aload_n C d_law_518 rfl 2 rfl ?_
        refine g_callVp C (rest := []) (wr := wL ad X s1 f1) [22, 23, 24, 25, 26, 27, 28, 29, 30, 31, 32, 33, 34, 35, 36] [0, 1, 2, 3, 4, 5, 6, 7, 8, 9, 10, 11, 12, 13, 14, 15, 16, 17, 18, 19, 20, 21] rfl rfl rfl rfl (by decide) 22 (fun l => m_M_SpillQueueModel_thrown X am t1 _ h l) rfl rfl (gt 813 (by decide +kernel) rfl) cb_MO_thrown ⟨rfl, rfl⟩ (by rw [hRm]; decide) (by rw [hRm]; exact ⟨by show 37 + 2 * j + 2 ≤ 1074; omega, by show 17922 + 12 * j + 12 ≤ 26192; omega⟩) rfl rfl (Nat.le_of_ble_eq_true rfl) d_law_519 ?_
        rintro v u ⟨th, t2, rfl, rfl, h⟩
        refine g_w (ws2 := wA ad am X s1 f1 t2) rfl ?_
        show gW X E _ _ _ _ _ [.int th]
        refine g_iload C d_law_522 5 rfl ?_
        refine g_icmp_eq C 529 d_law_524 (by decide) (fun _ => ?_) (fun c9 => absurd h.1 c9)
        have h := h.2
        refine g_iload C d_law_529 5 rfl ?_
        refine g_if_ne C 546 d_law_531 (by decide) (fun c1 => ?_) (fun c1 => ?_)
        · have h := h.1 c1
          refine g_goto C 733 d_law_546 (by decide) ?_
          refine g_lv C [0, 1, 2, 3, 4] rfl ?_
          exact htail _ _ s1 f1 t2 (by omega) (by omega) h
        · have h := h.2 c1
          refine g_aload_n C d_law_534 rfl 3 rfl ?_
          refine g_iconst C 0 d_law_535 (by decide) ?_
          refine g_lald C 21 2 rfl rfl vp_in_01 d_law_536 ?_
          refine g_iload C d_law_537 6 rfl ?_
          refine g_i2l C d_law_539 ?_
          refine g_lcmp C d_law_540 ?_
          refine g_if_eq C 546 d_law_541 (by decide) (fun _ => ?_) (fun c9 => absurd h.1 c9)
          refine g_goto C 733 d_law_546 (by decide) ?_
          refine g_lv C [0, 1, 2, 3, 4] rfl ?_
          exact htail _ _ s1 f1 t2 (by omega) (by omega) h.2
      by_cases c_10 : op = 10
      · refine g_tableIn C 549 d_law_39 (by rw [c_10]; decide) (by rw [c_10]; decide) (by rw [c_10]; rfl) (by decide) ?_
        have h := habout (xs (x4 + 1).toNatClampNeg) 0 0 0 s f t hR
        have h : wp_L_about (xs (x4 + 1).toNatClampNeg) s f (fun k1 s1 f1 => wp_M_SpillQueueModel_about (xs (x4 + 1).toNatClampNeg) t (fun b1 t1 => wp_M_SpillQueueModel_thrown t1 (fun th t2 => th = k1 ∧ ((¬ k1 = 0 → Rel s1 t2) ∧ (k1 = 0 → lg_cmp (f1 (0 : Int32).toNatClampNeg) b1.toInt64 = 0 ∧ Rel s1 t2))))) := h
        refine g_aload_n C d_law_549 rfl 1 rfl ?_
        refine g_aload_n C d_law_550 rfl 0 rfl ?_
        refine g_iload C d_law_551 4 rfl ?_
        refine g_iconst C 1 d_law_553 (by decide) ?_
        refine g_iadd C d_law_554 ?_
        refine g_sld C hs hv1 d_law_555 ?_
        refine g_aload_n C d_law_556 rfl 3 rfl ?_
        refine g_callSw C hs (rest := []) (n := 3) (wr := wM am X t) [0, 1, 2, 3, 4, 5, 6, 7, 8, 9, 10, 11, 12, 13, 14, 15, 16, 17, 18, 19, 20, 21] [22, 23, 24, 25, 26, 27, 28, 29, 30, 31, 32, 33, 34, 35, 36] rfl rfl rfl rfl (by decide) (fun l hl => m_L_about X ad (xs (x4 + 1).toNatClampNeg) s f _ h l hl) (gt 687 (by decide +kernel) rfl) (gt 688 (by decide +kernel) rfl) (gt 86 (by decide +kernel) rfl) (gt 689 rfl rfl) (by decide +kernel) ⟨rfl, rfl⟩ (by rw [hRm]; decide) (by rw [hRm]; exact ⟨by show 37 + 2 * j + 1 ≤ 1074; omega, by show 17922 + 12 * j + 6 ≤ 26192; omega⟩) rfl rfl (Nat.le_of_ble_eq_true rfl) d_law_557 ?_
        rintro v u ⟨k1, s1, f1, rfl, rfl, h⟩
        refine g_perm (ws2 := wA ad am X s1 f1 t) [15, 16, 17, 18, 19, 20, 21, 22, 23, 24, 25, 26, 27, 28, 29, 30, 31, 32, 33, 34, 35, 36, 0, 1, 2, 3, 4, 5, 6, 7, 8, 9, 10, 11, 12, 13, 14] rfl rfl ?_
        show gW X E _ _ _ _ _ [.int k1]
        refine g_istore C (lv2 := [(0, .ref b), (1, .ref (ad 0)), (2, .ref (am 0)), (3, .ref (ad 21)), (4, .int x4), (5, .int k1)]) d_law_560 (by decide) rfl ?_
        refine g_aload_n C d_law_562 rfl 2 rfl ?_
        refine g_aload_n C d_law_563 rfl 0 rfl ?_
        refine g_iload C d_law_564 4 rfl ?_
        refine g_iconst C 1 d_law_566 (by decide) ?_
        refine g_iadd C d_law_567 ?_
        refine g_sld C hs hv1 d_law_568 ?_
        refine g_callVp C (rest := []) (n := 1) (wr := wL ad X s1 f1) [22, 23, 24, 25, 26, 27, 28, 29, 30, 31, 32, 33, 34, 35, 36] [0, 1, 2, 3, 4, 5, 6, 7, 8, 9, 10, 11, 12, 13, 14, 15, 16, 17, 18, 19, 20, 21] rfl rfl rfl rfl (by decide) 22 (fun l => m_M_SpillQueueModel_about X am (xs (x4 + 1).toNatClampNeg) t _ h l) rfl rfl (gt 988 (by decide +kernel) rfl) cb_MO_about ⟨rfl, rfl⟩ (by rw [hRm]; decide) (by rw [hRm]; exact ⟨by show 37 + 2 * j + 1 ≤ 1074; omega, by show 17922 + 12 * j + 6 ≤ 26192; omega⟩) rfl rfl (Nat.le_of_ble_eq_true rfl) d_law_569 ?_
        rintro v u ⟨b1, t1, rfl, rfl, h⟩
        refine g_w (ws2 := wA ad am X s1 f1 t1) rfl ?_
        show gW X E _ _ _ _ _ [.int b1]
        refine g_istore C (lv2 := [(0, .ref b), (1, .ref (ad 0)), (2, .ref (am 0)), (3, .ref (ad 21)), (4, .int x4), (5, .int k1), (6, .int b1)]) d_law_572 (by decide) rfl ?_
        refine g_aload_n C d_law_574 rfl 2 rfl ?_
        refine g_callVp C (rest := []) (wr := wL ad X s1 f1) [22, 23, 24, 25, 26, 27, 28, 29, 30, 31, 32, 33, 34, 35, 36] [0, 1, 2, 3, 4, 5, 6, 7, 8, 9, 10, 11, 12, 13, 14, 15, 16, 17, 18, 19, 20, 21] rfl rfl rfl rfl (by decide) 22 (fun l => m_M_SpillQueueModel_thrown X am t1 _ h l) rfl rfl (gt 813 (by decide +kernel) rfl) cb_MO_thrown ⟨rfl, rfl⟩ (by rw [hRm]; decide) (by rw [hRm]; exact ⟨by show 37 + 2 * j + 1 ≤ 1074; omega, by show 17922 + 12 * j + 6 ≤ 26192; omega⟩) rfl rfl (Nat.le_of_ble_eq_true rfl) d_law_575 ?_
        rintro v u ⟨th, t2, rfl, rfl, h⟩
        refine g_w (ws2 := wA ad am X s1 f1 t2) rfl ?_
        show gW X E _ _ _ _ _ [.int th]
        refine g_iload C d_law_578 5 rfl ?_
        refine g_icmp_eq C 585 d_law_580 (by decide) (fun _ => ?_) (fun c9 => absurd h.1 c9)
        have h := h.2
        refine g_iload C d_law_585 5 rfl ?_
        refine g_if_ne C 602 d_law_587 (by decide) (fun c1 => ?_) (fun c1 => ?_)
        · have h := h.1 c1
          refine g_goto C 733 d_law_602 (by decide) ?_
          refine g_lv C [0, 1, 2, 3, 4] rfl ?_
          exact htail _ _ s1 f1 t2 (by omega) (by omega) h
        · have h := h.2 c1
          refine g_aload_n C d_law_590 rfl 3 rfl ?_
          refine g_iconst C 0 d_law_591 (by decide) ?_
          refine g_lald C 21 2 rfl rfl vp_in_01 d_law_592 ?_
          refine g_iload C d_law_593 6 rfl ?_
          refine g_i2l C d_law_595 ?_
          refine g_lcmp C d_law_596 ?_
          refine g_if_eq C 602 d_law_597 (by decide) (fun _ => ?_) (fun c9 => absurd h.1 c9)
          refine g_goto C 733 d_law_602 (by decide) ?_
          refine g_lv C [0, 1, 2, 3, 4] rfl ?_
          exact htail _ _ s1 f1 t2 (by omega) (by omega) h.2
      by_cases c_11 : op = 11
      · refine g_tableIn C 605 d_law_39 (by rw [c_11]; decide) (by rw [c_11]; decide) (by rw [c_11]; rfl) (by decide) ?_
        have h := hword (xs (x4 + 1).toNatClampNeg) (xs (x4 + 2).toNatClampNeg) 0 0 s f t hR
        have h : wp_L_word (xs (x4 + 1).toNatClampNeg) (xs (x4 + 2).toNatClampNeg) s f (fun k1 s1 f1 => wp_M_SpillQueueModel_word (xs (x4 + 1).toNatClampNeg) (xs (x4 + 2).toNatClampNeg) t (fun b1 t1 => wp_M_SpillQueueModel_thrown t1 (fun th t2 => th = k1 ∧ ((¬ k1 = 0 → Rel s1 t2) ∧ (k1 = 0 → lg_cmp (f1 (0 : Int32).toNatClampNeg) b1.toInt64 = 0 ∧ Rel s1 t2))))) := h
        refine g_aload_n C d_law_605 rfl 1 rfl ?_
        refine g_aload_n C d_law_606 rfl 0 rfl ?_
        refine g_iload C d_law_607 4 rfl ?_
        refine g_iconst C 1 d_law_609 (by decide) ?_
        refine g_iadd C d_law_610 ?_
        refine g_sld C hs hv1 d_law_611 ?_
        refine g_aload_n C d_law_612 rfl 0 rfl ?_
        refine g_iload C d_law_613 4 rfl ?_
        refine g_iconst C 2 d_law_615 (by decide) ?_
        refine g_iadd C d_law_616 ?_
        refine g_sld C hs hv2 d_law_617 ?_
        refine g_aload_n C d_law_618 rfl 3 rfl ?_
        refine g_callSw C hs (rest := []) (n := 4) (wr := wM am X t) [0, 1, 2, 3, 4, 5, 6, 7, 8, 9, 10, 11, 12, 13, 14, 15, 16, 17, 18, 19, 20, 21] [22, 23, 24, 25, 26, 27, 28, 29, 30, 31, 32, 33, 34, 35, 36] rfl rfl rfl rfl (by decide) (fun l hl => m_L_word X ad (xs (x4 + 1).toNatClampNeg) (xs (x4 + 2).toNatClampNeg) s f _ h l hl) (gt 695 (by decide +kernel) rfl) (gt 696 (by decide +kernel) rfl) (gt 86 (by decide +kernel) rfl) (gt 697 rfl rfl) (by decide +kernel) ⟨rfl, rfl⟩ (by rw [hRm]; decide) (by rw [hRm]; exact ⟨by show 37 + 2 * j + 1 ≤ 1074; omega, by show 17922 + 12 * j + 6 ≤ 26192; omega⟩) rfl rfl (Nat.le_of_ble_eq_true rfl) d_law_619 ?_
        rintro v u ⟨k1, s1, f1, rfl, rfl, h⟩
        refine g_perm (ws2 := wA ad am X s1 f1 t) [15, 16, 17, 18, 19, 20, 21, 22, 23, 24, 25, 26, 27, 28, 29, 30, 31, 32, 33, 34, 35, 36, 0, 1, 2, 3, 4, 5, 6, 7, 8, 9, 10, 11, 12, 13, 14] rfl rfl ?_
        show gW X E _ _ _ _ _ [.int k1]
        refine g_istore C (lv2 := [(0, .ref b), (1, .ref (ad 0)), (2, .ref (am 0)), (3, .ref (ad 21)), (4, .int x4), (5, .int k1)]) d_law_622 (by decide) rfl ?_
        refine g_aload_n C d_law_624 rfl 2 rfl ?_
        refine g_aload_n C d_law_625 rfl 0 rfl ?_
        refine g_iload C d_law_626 4 rfl ?_
        refine g_iconst C 1 d_law_628 (by decide) ?_
        refine g_iadd C d_law_629 ?_
        refine g_sld C hs hv1 d_law_630 ?_
        refine g_aload_n C d_law_631 rfl 0 rfl ?_
        refine g_iload C d_law_632 4 rfl ?_
        refine g_iconst C 2 d_law_634 (by decide) ?_
        refine g_iadd C d_law_635 ?_
        refine g_sld C hs hv2 d_law_636 ?_
        refine g_callVp C (rest := []) (n := 2) (wr := wL ad X s1 f1) [22, 23, 24, 25, 26, 27, 28, 29, 30, 31, 32, 33, 34, 35, 36] [0, 1, 2, 3, 4, 5, 6, 7, 8, 9, 10, 11, 12, 13, 14, 15, 16, 17, 18, 19, 20, 21] rfl rfl rfl rfl (by decide) 22 (fun l => m_M_SpillQueueModel_word X am (xs (x4 + 1).toNatClampNeg) (xs (x4 + 2).toNatClampNeg) t _ h l) rfl rfl (gt 992 (by decide +kernel) rfl) cb_MO_word ⟨rfl, rfl⟩ (by rw [hRm]; decide) (by rw [hRm]; exact ⟨by show 37 + 2 * j + 1 ≤ 1074; omega, by show 17922 + 12 * j + 6 ≤ 26192; omega⟩) rfl rfl (Nat.le_of_ble_eq_true rfl) d_law_637 ?_
        rintro v u ⟨b1, t1, rfl, rfl, h⟩
        refine g_w (ws2 := wA ad am X s1 f1 t1) rfl ?_
        show gW X E _ _ _ _ _ [.int b1]
        refine g_istore C (lv2 := [(0, .ref b), (1, .ref (ad 0)), (2, .ref (am 0)), (3, .ref (ad 21)), (4, .int x4), (5, .int k1), (6, .int b1)]) d_law_640 (by decide) rfl ?_
        refine g_aload_n C d_law_642 rfl 2 rfl ?_
        refine g_callVp C (rest := []) (wr := wL ad X s1 f1) [22, 23, 24, 25, 26, 27, 28, 29, 30, 31, 32, 33, 34, 35, 36] [0, 1, 2, 3, 4, 5, 6, 7, 8, 9, 10, 11, 12, 13, 14, 15, 16, 17, 18, 19, 20, 21] rfl rfl rfl rfl (by decide) 22 (fun l => m_M_SpillQueueModel_thrown X am t1 _ h l) rfl rfl (gt 813 (by decide +kernel) rfl) cb_MO_thrown ⟨rfl, rfl⟩ (by rw [hRm]; decide) (by rw [hRm]; exact ⟨by show 37 + 2 * j + 1 ≤ 1074; omega, by show 17922 + 12 * j + 6 ≤ 26192; omega⟩) rfl rfl (Nat.le_of_ble_eq_true rfl) d_law_643 ?_
        rintro v u ⟨th, t2, rfl, rfl, h⟩
        refine g_w (ws2 := wA ad am X s1 f1 t2) rfl ?_
        show gW X E _ _ _ _ _ [.int th]
        refine g_iload C d_law_646 5 rfl ?_
        refine g_icmp_eq C 653 d_law_648 (by decide) (fun _ => ?_) (fun c9 => absurd h.1 c9)
        have h := h.2
        refine g_iload C d_law_653 5 rfl ?_
        refine g_if_ne C 670 d_law_655 (by decide) (fun c1 => ?_) (fun c1 => ?_)
        · have h := h.1 c1
          refine g_goto C 733 d_law_670 (by decide) ?_
          refine g_lv C [0, 1, 2, 3, 4] rfl ?_
          exact htail _ _ s1 f1 t2 (by omega) (by omega) h
        · have h := h.2 c1
          refine g_aload_n C d_law_658 rfl 3 rfl ?_
          refine g_iconst C 0 d_law_659 (by decide) ?_
          refine g_lald C 21 2 rfl rfl vp_in_01 d_law_660 ?_
          refine g_iload C d_law_661 6 rfl ?_
          refine g_i2l C d_law_663 ?_
          refine g_lcmp C d_law_664 ?_
          refine g_if_eq C 670 d_law_665 (by decide) (fun _ => ?_) (fun c9 => absurd h.1 c9)
          refine g_goto C 733 d_law_670 (by decide) ?_
          refine g_lv C [0, 1, 2, 3, 4] rfl ?_
          exact htail _ _ s1 f1 t2 (by omega) (by omega) h.2
      by_cases c_12 : op = 12
      · refine g_tableIn C 673 d_law_39 (by rw [c_12]; decide) (by rw [c_12]; decide) (by rw [c_12]; rfl) (by decide) ?_
        have h := hspoil (xs (x4 + 1).toNatClampNeg) (xs (x4 + 2).toNatClampNeg) (xs (x4 + 3).toNatClampNeg) 0 s f t hR
        have h : wp_L_spoil (xs (x4 + 1).toNatClampNeg) (xs (x4 + 2).toNatClampNeg) (xs (x4 + 3).toNatClampNeg) s f (fun k1 s1 f1 => wp_M_SpillQueueModel_spoil (xs (x4 + 1).toNatClampNeg) (xs (x4 + 2).toNatClampNeg) (xs (x4 + 3).toNatClampNeg) t (fun t1 => wp_M_SpillQueueModel_thrown t1 (fun th t2 => th = k1 ∧ Rel s1 t2))) := h
        refine g_aload_n C d_law_673 rfl 1 rfl ?_
        refine g_aload_n C d_law_674 rfl 0 rfl ?_
        refine g_iload C d_law_675 4 rfl ?_
        refine g_iconst C 1 d_law_677 (by decide) ?_
        refine g_iadd C d_law_678 ?_
        refine g_sld C hs hv1 d_law_679 ?_
        refine g_aload_n C d_law_680 rfl 0 rfl ?_
        refine g_iload C d_law_681 4 rfl ?_
        refine g_iconst C 2 d_law_683 (by decide) ?_
        refine g_iadd C d_law_684 ?_
        refine g_sld C hs hv2 d_law_685 ?_
        refine g_aload_n C d_law_686 rfl 0 rfl ?_
        refine g_iload C d_law_687 4 rfl ?_
        refine g_iconst C 3 d_law_689 (by decide) ?_
        refine g_iadd C d_law_690 ?_
        refine g_sld C hs hv3 d_law_691 ?_
        refine g_callSw C hs (rest := []) (n := 4) (wr := wM am X t) [0, 1, 2, 3, 4, 5, 6, 7, 8, 9, 10, 11, 12, 13, 14, 15, 16, 17, 18, 19, 20, 21] [22, 23, 24, 25, 26, 27, 28, 29, 30, 31, 32, 33, 34, 35, 36] rfl rfl rfl rfl (by decide) (fun l hl => m_L_spoil X ad (xs (x4 + 1).toNatClampNeg) (xs (x4 + 2).toNatClampNeg) (xs (x4 + 3).toNatClampNeg) s f _ h l hl) (gt 712 (by decide +kernel) rfl) (gt 713 (by decide +kernel) rfl) (gt 86 (by decide +kernel) rfl) (gt 714 rfl rfl) (by decide +kernel) ⟨rfl, rfl⟩ (by rw [hRm]; decide) (by rw [hRm]; exact ⟨by show 37 + 2 * j + 1 ≤ 1074; omega, by show 17922 + 12 * j + 6 ≤ 26192; omega⟩) rfl rfl (Nat.le_of_ble_eq_true rfl) d_law_692 ?_
        rintro v u ⟨k1, s1, f1, rfl, rfl, h⟩
        refine g_perm (ws2 := wA ad am X s1 f1 t) [15, 16, 17, 18, 19, 20, 21, 22, 23, 24, 25, 26, 27, 28, 29, 30, 31, 32, 33, 34, 35, 36, 0, 1, 2, 3, 4, 5, 6, 7, 8, 9, 10, 11, 12, 13, 14] rfl rfl ?_
        show gW X E _ _ _ _ _ [.int k1]
        refine g_istore C (lv2 := [(0, .ref b), (1, .ref (ad 0)), (2, .ref (am 0)), (3, .ref (ad 21)), (4, .int x4), (5, .int k1)]) d_law_695 (by decide) rfl ?_
        refine g_aload_n C d_law_697 rfl 2 rfl ?_
        refine g_aload_n C d_law_698 rfl 0 rfl ?_
        refine g_iload C d_law_699 4 rfl ?_
        refine g_iconst C 1 d_law_701 (by decide) ?_
        refine g_iadd C d_law_702 ?_
        refine g_sld C hs hv1 d_law_703 ?_
        refine g_aload_n C d_law_704 rfl 0 rfl ?_
        refine g_iload C d_law_705 4 rfl ?_
        refine g_iconst C 2 d_law_707 (by decide) ?_
        refine g_iadd C d_law_708 ?_
        refine g_sld C hs hv2 d_law_709 ?_
        refine g_aload_n C d_law_710 rfl 0 rfl ?_
        refine g_iload C d_law_711 4 rfl ?_
        refine g_iconst C 3 d_law_713 (by decide) ?_
        refine g_iadd C d_law_714 ?_
        refine g_sld C hs hv3 d_law_715 ?_
        refine g_callVp C (rest := []) (n := 3) (wr := wL ad X s1 f1) [22, 23, 24, 25, 26, 27, 28, 29, 30, 31, 32, 33, 34, 35, 36] [0, 1, 2, 3, 4, 5, 6, 7, 8, 9, 10, 11, 12, 13, 14, 15, 16, 17, 18, 19, 20, 21] rfl rfl rfl rfl (by decide) 22 (fun l => m_M_SpillQueueModel_spoil X am (xs (x4 + 1).toNatClampNeg) (xs (x4 + 2).toNatClampNeg) (xs (x4 + 3).toNatClampNeg) t _ h l) rfl rfl (gt 1000 (by decide +kernel) rfl) cb_MO_spoil ⟨rfl, rfl⟩ (by rw [hRm]; decide) (by rw [hRm]; exact ⟨by show 37 + 2 * j + 1 ≤ 1074; omega, by show 17922 + 12 * j + 6 ≤ 26192; omega⟩) rfl rfl (Nat.le_of_ble_eq_true rfl) d_law_716 ?_
        rintro v u ⟨t1, rfl, rfl, h⟩
        refine g_w (ws2 := wA ad am X s1 f1 t1) rfl ?_
        show gW X E _ _ _ _ _ []
        refine g_aload_n C d_law_719 rfl 2 rfl ?_
        refine g_callVp C (rest := []) (wr := wL ad X s1 f1) [22, 23, 24, 25, 26, 27, 28, 29, 30, 31, 32, 33, 34, 35, 36] [0, 1, 2, 3, 4, 5, 6, 7, 8, 9, 10, 11, 12, 13, 14, 15, 16, 17, 18, 19, 20, 21] rfl rfl rfl rfl (by decide) 22 (fun l => m_M_SpillQueueModel_thrown X am t1 _ h l) rfl rfl (gt 813 (by decide +kernel) rfl) cb_MO_thrown ⟨rfl, rfl⟩ (by rw [hRm]; decide) (by rw [hRm]; exact ⟨by show 37 + 2 * j + 1 ≤ 1074; omega, by show 17922 + 12 * j + 6 ≤ 26192; omega⟩) rfl rfl (Nat.le_of_ble_eq_true rfl) d_law_720 ?_
        rintro v u ⟨th, t2, rfl, rfl, h⟩
        refine g_w (ws2 := wA ad am X s1 f1 t2) rfl ?_
        show gW X E _ _ _ _ _ [.int th]
        refine g_iload C d_law_723 5 rfl ?_
        refine g_icmp_eq C 730 d_law_725 (by decide) (fun _ => ?_) (fun c9 => absurd h.1 c9)
        have h := h.2
        refine g_goto C 733 d_law_730 (by decide) ?_
        refine g_lv C [0, 1, 2, 3, 4] rfl ?_
        exact htail _ _ s1 f1 t2 (by omega) (by omega) h
      refine g_tableOut C 733 d_law_39 (by have q0 := lv_neT (a := 0) c_0 (by decide); have q1 := lv_neT (a := 1) c_1 (by decide); have q2 := lv_neT (a := 2) c_2 (by decide); have q3 := lv_neT (a := 3) c_3 (by decide); have q4 := lv_neT (a := 4) c_4 (by decide); have q5 := lv_neT (a := 5) c_5 (by decide); have q6 := lv_neT (a := 6) c_6 (by decide); have q7 := lv_neT (a := 7) c_7 (by decide); have q8 := lv_neT (a := 8) c_8 (by decide); have q9 := lv_neT (a := 9) c_9 (by decide); have q10 := lv_neT (a := 10) c_10 (by decide); have q11 := lv_neT (a := 11) c_11 (by decide); have q12 := lv_neT (a := 12) c_12 (by decide); omega) (by decide) ?_
      exact htail _ _ s f t (by omega) (by omega) hR
