/-! format, sync, min, take. -/
theorem m_fill88 {t : gS} {x1 x2 x3 x4 : Int32} {Q : gS → Prop} {K : Int32 → gS → Prop} (h : ∀ a f, (∀ j, j < 8000 → f j = 0) → K a (t.1, ua t.2 0 f)) : ∃ n16 : Nat, wl_M_SpillQueueModel_format_88 Q K x1 x2 x3 x4 n16 0 t := by
  have key : ∀ (m i : Nat) (f : Nat → Int32), i + m = 8000 → (∀ j, j < i → f j = 0) → wl_M_SpillQueueModel_format_88 Q K x1 x2 x3 x4 (m + 1) (nI i) (t.1, ua t.2 0 f) := by
    intro m
    induction m with
    | zero =>
      intro i f hi hf
      exact br_t (by (first | omega | ((simp (disch := omega) only [li0, li1, li2, li3, li4, li5, li9, li11, li40, li100, li200, li8000, li10000, lt_nI, le_nI, eq_nI]); done) | ((simp (disch := omega) only [li0, li1, li2, li3, li4, li5, li9, li11, li40, li100, li200, li8000, li10000, lt_nI, le_nI, eq_nI]); omega))) (h _ f (fun j hj => hf j (by omega)))
    | succ m ih =>
      intro i f hi hf
      refine br_f (by (first | omega | ((simp (disch := omega) only [li0, li1, li2, li3, li4, li5, li9, li11, li40, li100, li200, li8000, li10000, lt_nI, le_nI, eq_nI]); done) | ((simp (disch := omega) only [li0, li1, li2, li3, li4, li5, li9, li11, li40, li100, li200, li8000, li10000, lt_nI, le_nI, eq_nI]); omega))) ?_
      refine ⟨vp_in_nI (by omega) (by omega), ?_⟩
      (intro v hv; subst hv)
      have := ih (i + 1) (upd f i 0) (by omega) (fun j hj => by
        by_cases e : j = i
        · rw [e, upd_s]
        · rw [upd_n e]; exact hf j (by omega))
      show wl_M_SpillQueueModel_format_88 Q K x1 x2 x3 x4 (m + 1) (nI i + 1) (t.1, ua (ua t.2 0 f) 0 (upd (ua t.2 0 f 0) (nI i).toNatClampNeg 0))
      rw [ua_ua, ua_s, cl_nI (by omega), nI_1]
      exact this
  refine ⟨8001, ?_⟩
  have := key 8000 0 (t.2 0) rfl (fun j hj => absurd hj (by omega))
  rw [ua_id] at this
  exact this
theorem m_fill113 {t : gS} {x1 x2 x3 x4 : Int32} {Q : gS → Prop} {K : Int32 → gS → Prop} (h : ∀ a f, (∀ j, j < 200 → f j = 0) → K a (t.1, ua t.2 6 f)) : ∃ n16 : Nat, wl_M_SpillQueueModel_format_113 Q K x1 x2 x3 x4 n16 0 t := by
  have key : ∀ (m i : Nat) (f : Nat → Int32), i + m = 200 → (∀ j, j < i → f j = 0) → wl_M_SpillQueueModel_format_113 Q K x1 x2 x3 x4 (m + 1) (nI i) (t.1, ua t.2 6 f) := by
    intro m
    induction m with
    | zero =>
      intro i f hi hf
      exact br_t (by (first | omega | ((simp (disch := omega) only [li0, li1, li2, li3, li4, li5, li9, li11, li40, li100, li200, li8000, li10000, lt_nI, le_nI, eq_nI]); done) | ((simp (disch := omega) only [li0, li1, li2, li3, li4, li5, li9, li11, li40, li100, li200, li8000, li10000, lt_nI, le_nI, eq_nI]); omega))) (h _ f (fun j hj => hf j (by omega)))
    | succ m ih =>
      intro i f hi hf
      refine br_f (by (first | omega | ((simp (disch := omega) only [li0, li1, li2, li3, li4, li5, li9, li11, li40, li100, li200, li8000, li10000, lt_nI, le_nI, eq_nI]); done) | ((simp (disch := omega) only [li0, li1, li2, li3, li4, li5, li9, li11, li40, li100, li200, li8000, li10000, lt_nI, le_nI, eq_nI]); omega))) ?_
      refine ⟨vp_in_nI (by omega) (by omega), ?_⟩
      (intro v hv; subst hv)
      have := ih (i + 1) (upd f i 0) (by omega) (fun j hj => by
        by_cases e : j = i
        · rw [e, upd_s]
        · rw [upd_n e]; exact hf j (by omega))
      show wl_M_SpillQueueModel_format_113 Q K x1 x2 x3 x4 (m + 1) (nI i + 1) (t.1, ua (ua t.2 6 f) 6 (upd (ua t.2 6 f 6) (nI i).toNatClampNeg (vp_nar .boolean 0)))
      rw [ua_ua, ua_s, cl_nI (by omega), nb0, nI_1]
      exact this
  refine ⟨201, ?_⟩
  have := key 200 0 (t.2 6) rfl (fun j hj => absurd hj (by omega))
  rw [ua_id] at this
  exact this
theorem wf_pw {bl wd mm : Nat} {D : Nat → Nat → Int32} {cut : Nat} {km : List Int32} {rs : List ARun} (hW : WF bl wd mm D cut km rs) (e : Int32) : WF bl wd mm (pw D wd e rs) (cut - 1) km rs := by
  obtain ⟨w1, w2, w3, w4, w5, w6, w7⟩ := hW
  exact ⟨by omega, w2, w3, w4, w5, runOK_pw w6, w7⟩
theorem L_format {a1 a2 a3 a4 : Int32} {s : gS} {f : Nat → Int64} {t : gS} (h : Rel s t) : lawStep_format a1 a2 a3 a4 s f t (fun s1 _ t1 => Rel s1 t1) := by
  unfold lawStep_format wp_L_format wp_SpillQueue_format
  have bad : ¬ ((¬ a1 < 4 ∧ ¬ 200 < a1) ∧ (¬ a2 < 11 ∧ ¬ 40 < a2) ∧ (¬ a3 < 1 ∧ ¬ 100 < a3) ∧ (¬ a4 < 2 ∧ ¬ 5 < a4)) → ((1 : Nat) = 1 ∧ wp_M_SpillQueueModel_format a1 a2 a3 a4 t (fun t1 => wp_M_SpillQueueModel_thrown t1 (fun th t2 => th = 1 ∧ Rel s t2))) := by
    intro c
    refine ⟨rfl, ?_⟩
    have fin := k_ok0 (R := Rel) (th_s t 1) (rel_th h 1)
    unfold wp_M_SpillQueueModel_format
    refine m_within ?_
    by_cases c1 : ¬ a1 < 4 ∧ ¬ 200 < a1
    · rw [decide_eq_true c1]
      refine br_f (by decide) (m_within ?_)
      by_cases c2 : ¬ a2 < 11 ∧ ¬ 40 < a2
      · rw [decide_eq_true c2]
        refine br_f (by decide) (m_within ?_)
        by_cases c3 : ¬ a3 < 1 ∧ ¬ 100 < a3
        · rw [decide_eq_true c3]
          refine br_f (by decide) (m_within ?_)
          rw [decide_eq_false (fun q => c ⟨c1, c2, c3, q⟩)]
          exact br_nf rfl fin
        · rw [decide_eq_false c3]; exact br_t rfl fin
      · rw [decide_eq_false c2]; exact br_t rfl fin
    · rw [decide_eq_false c1]; exact br_t rfl fin
  by_cases c1 : a1 < 4
  · exact br_t c1 (bad (fun q => q.1.1 c1))
  refine br_f c1 ?_
  by_cases c2 : ¬ a1 ≤ 200
  · exact br_f c2 (bad (fun q => q.1.2 (Int32.not_le.mp c2)))
  have c2 : a1 ≤ 200 := Decidable.of_not_not c2
  refine br_t c2 ?_
  by_cases c3 : a2 < 11
  · exact br_t c3 (bad (fun q => q.2.1.1 c3))
  refine br_f c3 ?_
  by_cases c4 : ¬ a2 ≤ 40
  · exact br_f c4 (bad (fun q => q.2.1.2 (Int32.not_le.mp c4)))
  have c4 : a2 ≤ 40 := Decidable.of_not_not c4
  refine br_t c4 ?_
  by_cases c5 : a3 < 1
  · exact br_t c5 (bad (fun q => q.2.2.1.1 c5))
  refine br_f c5 ?_
  by_cases c6 : ¬ a3 ≤ 100
  · exact br_f c6 (bad (fun q => q.2.2.1.2 (Int32.not_le.mp c6)))
  have c6 : a3 ≤ 100 := Decidable.of_not_not c6
  refine br_t c6 ?_
  by_cases c7 : a4 < 2
  · exact br_t c7 (bad (fun q => q.2.2.2.1 c7))
  refine br_f c7 ?_
  by_cases c8 : ¬ a4 ≤ 5
  · exact br_f c8 (bad (fun q => q.2.2.2.2 (Int32.not_le.mp c8)))
  have c8 : a4 ≤ 5 := Decidable.of_not_not c8
  refine br_t c8 ?_
  obtain ⟨bl, hb1, hb2, e1⟩ := ex_rng (lo := 4) (hi := 200) (by omega) (by omega) c1 (Int32.not_lt.mpr c2)
  obtain ⟨wd, hw1, hw2, e2⟩ := ex_rng (lo := 11) (hi := 40) (by omega) (by omega) c3 (Int32.not_lt.mpr c4)
  obtain ⟨mm, hm1, hm2, e3⟩ := ex_rng (lo := 1) (hi := 100) (by omega) (by omega) c5 (Int32.not_lt.mpr c6)
  obtain ⟨fn, hf1, hf2, e4⟩ := ex_rng (lo := 2) (hi := 5) (by omega) (by omega) c7 (Int32.not_lt.mpr c8)
  have hz : (4 ≤ bl ∧ bl ≤ 200 ∧ 11 ≤ wd ∧ wd ≤ 40 ∧ 1 ≤ mm ∧ mm ≤ 100 ∧ 2 ≤ fn ∧ fn ≤ 5) := ⟨hb1, hb2, hw1, hw2, hm1, hm2, hf1, hf2⟩
  have hW : WF bl wd mm (fun _ _ => 0) 0 [] [] := ⟨by omega, List.Pairwise.nil, Nat.zero_le _, fun k hk => absurd hk (by simp), Nat.zero_le _, fun r hr => absurd hr (by simp), fun q => by simp at q; omega⟩
  refine c_off (fun f10 hf10 => ?_)
  unfold wp_Disk_renew
  refine c_fill2 (fun g hg => ?_)
  have hC : LC bl wd mm fn 0 (fun _ => false) (up (up (up (up (up (up (up (up (up (up (up (up s.1 2 0) 1 0) 7 0) 9 0) 6 0) 3 a1) 4 a2) 5 0) 6 0) 8 a3) 0 a4) 2 1, ua (ua s.2 10 f10) 0 g) (fun _ _ => 0) 0 0 [] [] := by
    refine ⟨⟨?_, ?_, ?_, ?_, hz, fun b i hb hi => ?_⟩, ?_, ?_, ?_, ?_, ?_, hold_nil _, ⟨?_, Nat.zero_le _, fun i hi => absurd hi (by simp)⟩, ?_⟩
    · simp [up_i]; exact e1
    · simp [up_i]; exact e2
    · simp [up_i]; exact e3
    · simp [up_i]; exact e4
    · rw [p2s]; exact hg _ (mulwd hb hi hb2 hw2)
    · simp [up_i]
    · simp [up_i]
    · simp [up_i]
    · simp [up_i]; rfl
    · simp [up_i]; rfl
    · simp [up_i]; rfl
    · rw [p2n rfl, ua_s]; exact hf10
  refine c_nextEpoch hC (fun r hr => absurd hr (by simp)) (Nat.zero_le _) (by omega) (fun q => by cases q) (fun _ s1 hC1 => ?_)
  unfold wp_M_SpillQueueModel_format
  refine m_within ?_
  rw [decide_eq_true ⟨c1, Int32.not_lt.mpr c2⟩]
  refine br_f (by decide) (m_within ?_)
  rw [decide_eq_true ⟨c3, Int32.not_lt.mpr c4⟩]
  refine br_f (by decide) (m_within ?_)
  rw [decide_eq_true ⟨c5, Int32.not_lt.mpr c6⟩]
  refine br_f (by decide) (m_within ?_)
  rw [decide_eq_true ⟨c7, Int32.not_lt.mpr c8⟩]
  refine br_nt (by decide) ?_
  refine m_fill88 (fun a g1 hg1 => m_fill113 (fun a' g2 hg2 => ?_))
  have hM : LM bl wd mm fn 0 (fun _ => false) (up (up (up (up (up (up (up (up (up (up (up (up (up t.1 0 0) 1 1) 2 a1) 3 a2) 4 a3) 5 a4) 6 0) 7 0) 9 0) 10 0) 12 0) 11 0) 8 1, ua (ua t.2 0 g1) 6 g2) (fun _ _ => 0) 0 0 [] [] := by
    refine ⟨⟨?_, ?_, ?_, ?_, hz, fun b i hb hi => ?_⟩, ?_, ?_, ?_, ?_, ?_, ?_, ⟨[], List.Perm.refl _, ?_, hold_nil _⟩, ⟨?_, Nat.zero_le _, fun i hi => absurd hi (by simp)⟩, ?_⟩
    · simp [up_i]; exact e1
    · simp [up_i]; exact e2
    · simp [up_i]; exact e3
    · simp [up_i]; exact e4
    · rw [p2n rfl, ua_s]; exact hg1 _ (by omega)
    · simp [up_i]
    · simp [up_i]
    · simp [up_i]
    · simp [up_i]
    · simp [up_i]
    · simp [up_i]; rfl
    · simp [up_i]; rfl
    · simp [up_i]; rfl
    · rw [p2s]; exact hg2
  refine m_writeSuper hM (fun r hr => absurd hr (by simp)) (Nat.zero_le _) (by omega) (fun q => by cases q) (fun _ t1 h0 hM1 => k_ok0 (h0.trans (by simp [up_i])) ?_)
  exact Or.inr (Or.inr ⟨bl, wd, mm, fn, _, _, _, _, _, _, _, hC1, hM1, wf_pw hW _⟩)
theorem L_sync {a1 a2 a3 a4 : Int32} {s : gS} {f : Nat → Int64} {t : gS} (h : Rel s t) : lawStep_sync a1 a2 a3 a4 s f t (fun s1 _ t1 => Rel s1 t1) := by
  unfold lawStep_sync wp_L_sync wp_SpillQueue_sync wp_SpillQueue_requireLive
  rcases rel_cases h with ⟨d1, d2⟩ | ⟨bl, wd, mm, fn, ep, syn, D, wr, cut, km, rs, hC, hM, hW⟩
  · refine br_nf d1 ⟨rfl, ?_⟩
    exact br_t d2 (k_th (by decide) (th_s t 1) (rel_th h 1))
  · have hz := hC.1.2.2.2.2.1
    have w3 := hW.2.2.1
    have h8 : ¬ t.1 8 = 0 := by rw [hM.2.2.1]; decide
    have hMt := LM_fr hM (Fr_mono (Fr_th t 0) (by decide) (by decide))
    have e10 := MM_len hM.2.2.2.2.2.2.2.1
    refine br_nt (by rw [hC.2.1]; decide) ?_
    refine c_memmany ?_
    rw [hC.2.2.2.2.2.1]
    -- what writeNextEpoch does, on both sides
    have step : ∀ (s1 : gS) (D1 : Nat → Nat → Int32) (wr1 : Int32) (cut1 : Nat) (km1 : List Int32) (rs1 : List ARun), LC bl wd mm fn ep syn s1 D1 wr1 cut1 km1 rs1 → WF bl wd mm D1 cut1 km1 rs1 → ((∀ (Q : Int32 → gS → Prop), (∀ t1, t1.1 0 = 0 → LM bl wd mm fn ep syn t1 D1 wr1 cut1 km1 rs1 → wp_M_SpillQueueModel_writeSuper t1 (fun s16 => wp_M_SpillQueueModel_after 0 s16 (fun r19 s18 => Q r19 s18))) → wp_M_SpillQueueModel_sync t Q)) → wp_SpillQueue_writeNextEpoch s1 (fun r7 s6 => wp_M_SpillQueueModel_sync t (fun b1 t1 => wp_M_SpillQueueModel_thrown t1 (fun th t2 => th = 0 ∧ ((¬ (0 : Int32) = 0 → Rel s6 t2) ∧ ((0 : Int32) = 0 → lg_cmp ((vp_updL f (0 : Int32).toNatClampNeg r7.toInt64) (0 : Int32).toNatClampNeg) b1.toInt64 = 0 ∧ Rel s6 t2))))) := by
      intro s1 D1 wr1 cut1 km1 rs1 hC1 hW1 ref
      refine c_nextEpoch hC1 hW1.2.2.2.2.2.1 hW1.2.2.2.2.1 hW1.1 (fun c s2 hD => ref _ (fun t1 h0 hM1 => ?_)) (fun c s2 hC2 => ref _ (fun t1 h0 hM1 => ?_))
      · refine m_writeSuper hM1 hW1.2.2.2.2.2.1 hW1.2.2.2.2.1 hW1.1 (fun _ t2 e0 hO => ?_) (fun q => absurd c q)
        refine m_afterO hO (fun t3 e3 hDM => k_ok (by rw [e3, e0, h0]) rfl ?_)
        exact Or.inr (Or.inl ⟨bl, wd, mm, fn, _, _, hD, hDM⟩)
      · refine m_writeSuper hM1 hW1.2.2.2.2.2.1 hW1.2.2.2.2.1 hW1.1 (fun q => absurd q c) (fun _ t2 e0 hM2 => ?_)
        refine m_after0 hM2.2.2.2.1 (k_ok (by rw [e0, h0]) rfl ?_)
        exact Or.inr (Or.inr ⟨bl, wd, mm, fn, _, _, _, _, _, _, _, hC2, hM2, wf_pw hW1 _⟩)
    by_cases ck : km.length = 0
    · refine br_t (by rw [ck]; decide) (step s D wr cut km rs hC hW (fun Q hQ => ?_))
      refine br_f h8 (br_t (by rw [e10, ck]; decide) (br_nf hM.2.2.2.1 ?_))
      exact hQ _ (th_s t 0) hMt
    · have hk : 1 ≤ km.length := by omega
      refine br_f (by (first | omega | ((simp (disch := omega) only [li0, li1, li2, li3, li4, li5, li9, li11, li40, li100, li200, li8000, li10000, lt_nI, le_nI, eq_nI]); done) | ((simp (disch := omega) only [li0, li1, li2, li3, li4, li5, li9, li11, li40, li100, li200, li8000, li10000, lt_nI, le_nI, eq_nI]); omega))) ?_
      refine c_spill hC hW hk (fun s1 hR1 => ?_)
      have hwf := wf_spill (fn := fn) (syn := syn) (wr := wr) (bl := bl) ⟨by omega, by omega⟩ (by omega) (by omega) hW hk
      have ref : ∀ (Q1 : Int32 → gS → Prop), (∀ b t', ResM bl wd mm fn ep syn 0 (aSpill bl wd fn syn D wr cut km rs) b t' → ((¬ b = 0 → ((¬ (t'.1 9) = 0 → wp_M_SpillQueueModel_after 0 t' (fun r15 s14 => Q1 r15 s14)) ∧ ((t'.1 9) = 0 → wp_M_SpillQueueModel_writeSuper t' (fun s16 => wp_M_SpillQueueModel_after 0 s16 (fun r19 s18 => Q1 r19 s18))))) ∧ (b = 0 → wp_M_SpillQueueModel_after (-2) t' (fun r21 s20 => Q1 r21 s20)))) → wp_M_SpillQueueModel_sync t Q1 := by
        intro Q1 hQ1
        refine br_f h8 (br_f (by rw [e10]; (first | omega | ((simp (disch := omega) only [li0, li1, li2, li3, li4, li5, li9, li11, li40, li100, li200, li8000, li10000, lt_nI, le_nI, eq_nI]); done) | ((simp (disch := omega) only [li0, li1, li2, li3, li4, li5, li9, li11, li40, li100, li200, li8000, li10000, lt_nI, le_nI, eq_nI]); omega))) ?_)
        exact m_spill hMt hW hk (fun b t1 hb => hQ1 b t1 (by rw [th_s] at hb; exact hb))
      rcases aSpill_code bl wd fn syn D wr cut km rs with e | e | ⟨e, ek⟩
      · refine br_f (by rw [e]; exact n20) (ref _ (fun b t1 hb => ?_))
        obtain ⟨r0, r1, r2, r3, r4⟩ := hb
        have hne : (aSpill bl wd fn syn D wr cut km rs).1 ≠ -9 := by rw [e]; exact n29
        refine br_nf (r1 e) (m_after0 (r4 hne).2.2.2.1 (k_ok r0 e ?_))
        exact Or.inr (Or.inr ⟨bl, wd, mm, fn, ep, syn, _, _, _, _, _, hR1.2 hne, r4 hne, hwf hne⟩)
      · refine br_f (by rw [e]; exact n90) (ref _ (fun b t1 hb => ?_))
        obtain ⟨r0, r1, r2, r3, r4⟩ := hb
        have hO := r3 e
        have hb := r2 (by rw [e]; exact n92)
        subst hb
        refine br_nt (by decide) (br_nt (by rw [hO.2.2.1]; decide) (m_afterO hO (fun t2 e0 hD => k_ok (e0.trans r0) e ?_)))
        exact Or.inr (Or.inl ⟨bl, wd, mm, fn, _, _, hR1.1 e, hD⟩)
      · have hne : (aSpill bl wd fn syn D wr cut km rs).1 ≠ -9 := by rw [e]; exact n09
        refine br_t e (step s1 _ _ _ _ _ (hR1.2 hne) (hwf hne) (fun Q hQ => ref Q (fun b t1 hb => ?_)))
        obtain ⟨r0, r1, r2, r3, r4⟩ := hb
        have hL1 := r4 hne
        have hb := r2 (by rw [e]; exact n02)
        subst hb
        exact br_nt (by decide) (br_nf hL1.2.2.2.1 (hQ t1 r0 hL1))
/-! the least -/
def inMem (D : Nat → Nat → Int32) (km : List Int32) (rs : List ARun) : Bool := decide (0 < km.length) && (match pAll D rs with | none => true | some i => decide (keyMem km 0 ≤ aH D (getF rs i)))
def minV (D : Nat → Nat → Int32) (km : List Int32) (rs : List ARun) : Int32 := if inMem D km rs then keyMem km 0 else match pAll D rs with | none => -1 | some i => aH D (getF rs i)
theorem pAll_lt {D : Nat → Nat → Int32} {rs : List ARun} {i : Nat} (h : pAll D rs = some i) : i < rs.length := (pick_lt h).1
theorem c_leastAll {s : gS} {D : Nat → Nat → Int32} {rs : List ARun} (hR : RC s D rs.length (getF rs)) (hp : ∀ r, r ∈ rs → 0 < r.2.2.1) {Q : Int32 → gS → Prop} (h : Q (oI (pAll D rs)) s) : wp_Runs_leastAt 0 s Q := by
  refine c_leastAt hR ?_
  have e : pick (elC s 0 (getF rs)) (fun i => aH D (getF rs i)) rs.length = pAll D rs := by
    refine pick_congr (fun i hi => ?_) (fun i _ _ => rfl)
    simp [elC]; exact hp _ (getF_mem hi)
  rw [e]; exact h
theorem c_lMem {bl wd mm fn : Nat} {ep : Int32} {syn : Nat → Bool} {s : gS} {D : Nat → Nat → Int32} {wr : Int32} {cut : Nat} {km : List Int32} {rs : List ARun} (hC : LC bl wd mm fn ep syn s D wr cut km rs) (hl : km.length ≤ 100) (hk : 0 < km.length) {Q : Int32 → gS → Prop} (h : Q (keyMem km 0) s) : wp_Memory_least s Q := by
  refine c_memleast hC.2.2.2.2.2.1 hl hC.2.2.2.2.2.2.1 ?_
  rw [if_neg (by omega)]
  exact h
theorem c_isLeast {bl wd mm fn : Nat} {ep : Int32} {syn : Nat → Bool} {s : gS} {D : Nat → Nat → Int32} {wr : Int32} {cut : Nat} {km : List Int32} {rs : List ARun} (hC : LC bl wd mm fn ep syn s D wr cut km rs) (hl : km.length ≤ 100) (hp : ∀ r, r ∈ rs → 0 < r.2.2.1) {Q : Int32 → gS → Prop} (h : Q (bI (inMem D km rs)) s) : wp_SpillQueue_isLeastInMemory (oI (pAll D rs)) s Q := by
  have hR := hC.2.2.2.2.2.2.2.1
  have h9 := hR.2.1
  unfold wp_SpillQueue_isLeastInMemory
  refine c_memmany ?_
  rw [hC.2.2.2.2.2.1]
  unfold inMem at h
  by_cases ck : km.length = 0
  · rw [decide_eq_false (by omega), Bool.false_and] at h
    exact br_t (by rw [ck]; decide) h
  · rw [decide_eq_true (by omega), Bool.true_and] at h
    refine br_f (by (first | omega | ((simp (disch := omega) only [li0, li1, li2, li3, li4, li5, li9, li11, li40, li100, li200, li8000, li10000, lt_nI, le_nI, eq_nI]); done) | ((simp (disch := omega) only [li0, li1, li2, li3, li4, li5, li9, li11, li40, li100, li200, li8000, li10000, lt_nI, le_nI, eq_nI]); omega))) ?_
    cases hq : pAll D rs with
    | none => rw [hq] at h; exact br_t oI_neg h
    | some i =>
      rw [hq] at h
      simp only at h
      have hi := pAll_lt hq
      refine br_f (oI_pos (by omega)) (c_lMem hC hl (by omega) ?_)
      refine c_rheadOf hR hi (hp _ (getF_mem hi)) ?_
      by_cases c : keyMem km 0 ≤ aH D (getF rs i)
      · rw [decide_eq_true c] at h
        exact br_f (Int32.not_lt.mpr c) h
      · rw [decide_eq_false c] at h
        exact br_t (Int32.not_le.mp c) h
theorem c_hNone {s : gS} {Q : Int32 → gS → Prop} (h : Q 0 s) : wp_Runs_has (oI none) s Q := br_t oI_neg h
theorem m_leastKey {bl wd mm fn : Nat} {ep : Int32} {syn : Nat → Bool} {t : gS} {D : Nat → Nat → Int32} {wr : Int32} {cut : Nat} {km : List Int32} {rs : List ARun} (hM : LM bl wd mm fn ep syn t D wr cut km rs) (hW : WF bl wd mm D cut km rs) {Q : Int32 → gS → Prop} (h : Q (minV D km rs) t) : wp_M_SpillQueueModel_leastKey t Q := by
  have hz := hM.1.2.2.2.2.1
  have w3 := hW.2.2.1
  have hR := hM.2.2.2.2.2.2.2.2.1
  have h9 := hR.2.1
  have hok := hW.2.2.2.2.2.1
  unfold wp_M_SpillQueueModel_leastKey
  refine m_leastRun hM.1 hR hok ?_
  refine m_leastMem hM.2.2.2.2.2.2.2.1 (by omega) hW.2.1 hW.2.2.2.1 ?_
  unfold minV inMem at h
  cases hq : pAll D rs with
  | none =>
    rw [hq] at h
    refine br_f (by decide) ?_
    unfold lMem
    by_cases ck : km.length = 0
    · rw [if_pos ck]; rw [decide_eq_false (by omega)] at h; simpa using h
    · rw [if_neg ck]; rw [decide_eq_true (by omega)] at h; simpa using h
  | some i =>
    rw [hq] at h
    simp only at h
    have hi := pAll_lt hq
    have hoki := hok _ (getF_mem hi)
    refine br_t (nI_pos' (by omega)) ?_
    unfold lMem
    by_cases ck : km.length = 0
    · rw [if_pos ck]
      rw [decide_eq_false (by omega)] at h
      exact br_t (by decide) (m_least hM.1 hR hi hoki (by simpa using h))
    · rw [if_neg ck]
      rw [decide_eq_true (by omega), Bool.true_and] at h
      have h0 : 0 ≤ keyMem km 0 := hW.2.2.2.1 _ (by unfold keyMem; exact getD_mem (by omega))
      refine br_f (Int32.not_lt.mpr h0) (m_least hM.1 hR hi hoki ?_)
      by_cases c : keyMem km 0 ≤ aH D (getF rs i)
      · rw [decide_eq_true c] at h
        exact br_f (Int32.not_lt.mpr c) h
      · rw [decide_eq_false c] at h
        exact br_t (Int32.not_le.mp c) (m_least hM.1 hR hi hoki h)
theorem L_min {a1 a2 a3 a4 : Int32} {s : gS} {f : Nat → Int64} {t : gS} (h : Rel s t) : lawStep_min a1 a2 a3 a4 s f t (fun s1 _ t1 => Rel s1 t1) := by
  unfold lawStep_min wp_L_min wp_SpillQueue_min wp_SpillQueue_requireLive
  rcases rel_cases h with ⟨d1, d2⟩ | ⟨bl, wd, mm, fn, ep, syn, D, wr, cut, km, rs, hC, hM, hW⟩
  · refine br_nf d1 ⟨rfl, ?_⟩
    exact br_t d2 (k_th (by decide) (th_s t 1) (rel_th h 1))
  · have hz := hC.1.2.2.2.2.1
    have w3 := hW.2.2.1
    have hR := hC.2.2.2.2.2.2.2.1
    have hp : ∀ r, r ∈ rs → 0 < r.2.2.1 := fun r hr => (hW.2.2.2.2.2.1 r hr).2.2.1
    have hMt := LM_fr hM (Fr_mono (Fr_th t 0) (by decide) (by decide))
    have h8 : ¬ t.1 8 = 0 := by rw [hM.2.2.1]; decide
    refine br_nt (by rw [hC.2.1]; decide) ?_
    refine c_leastAll hR hp ?_
    refine c_isLeast hC (by omega) hp ?_
    have fin : ∀ v, v = minV D km rs → wp_M_SpillQueueModel_min t (fun b1 t1 => wp_M_SpillQueueModel_thrown t1 (fun th t2 => th = 0 ∧ ((¬ (0 : Int32) = 0 → Rel s t2) ∧ ((0 : Int32) = 0 → lg_cmp ((vp_updL f (0 : Int32).toNatClampNeg v.toInt64) (0 : Int32).toNatClampNeg) b1.toInt64 = 0 ∧ Rel s t2)))) := by
      intro v hv
      exact br_f h8 (m_leastKey hMt hW (k_ok (th_s t 0) hv (rel_th h 0)))
    cases hin : inMem D km rs with
    | true =>
      have hk : 0 < km.length := by
        unfold inMem at hin; simp only [Bool.and_eq_true, decide_eq_true_eq] at hin; exact hin.1
      exact br_f (by decide) (c_lMem hC (by omega) hk (fin _ (by unfold minV; rw [if_pos hin])))
    | false =>
      refine br_t rfl ?_
      cases hq : pAll D rs with
      | none =>
        refine c_hNone (br_t rfl (fin _ ?_))
        unfold minV; rw [hin, hq]; rfl
      | some i =>
        have hi := pAll_lt hq
        refine c_rheadOf hR hi (hp _ (getF_mem hi)) (fin _ ?_)
        unfold minV; rw [hin, hq]; rfl
