/-! The other calls, recover aside. -/
theorem k_ok0 {s1 t1 : gS} {R : gS → gS → Prop} {k : Int32} (h0 : t1.1 0 = k) (h : R s1 t1) : wp_M_SpillQueueModel_thrown t1 (fun th t2 => th = k ∧ R s1 t2) := ⟨h0, h⟩
/-- power goes off: the class is dead, the disk is as it was -/
theorem c_off1 {bl wd mm fn : Nat} {s : gS} {D : Nat → Nat → Int32} (hB : BC s bl wd mm fn D) {Q : gS → Prop} (h : ∀ s', DC bl wd mm fn s' D (s.1 5) → s'.1 6 = 0 → s'.1 9 = 0 → s'.1 7 = 0 → s'.1 1 = 0 → SetH (s'.2 10) (fun _ => false) → Q s') : wp_SpillQueue_powerOff s Q := by
  refine c_off (fun f hf => h _ ⟨?_, ?_, ?_⟩ ?_ ?_ ?_ ?_ ?_)
  · exact BC_fr hB (Fr_a (X := [1, 2, 6, 7, 9]) (Y := [10]) (s' := (up (up (up (up (up s.1 2 0) 1 0) 7 0) 9 0) 6 0, s.2)) ⟨fun q hq => by simp at hq; simp [up_i, hq], fun q _ => rfl⟩ (by decide)) (by decide) (by decide)
  · simp [up_i]
  · simp [up_i]
  · simp [up_i]
  · simp [up_i]
  · simp [up_i]
  · simp [up_i]
  · rw [p2s]; exact hf
theorem L_cut {a1 a2 a3 a4 : Int32} {s : gS} {f : Nat → Int64} {t : gS} (h : Rel s t) : lawStep_cut a1 a2 a3 a4 s f t (fun s1 _ t1 => Rel s1 t1) := by
  unfold lawStep_cut wp_L_cut wp_SpillQueue_cut wp_SpillQueue_requireDisk
  have go : ∀ (bl wd mm fn : Nat) (D : Nat → Nat → Int32), BC s bl wd mm fn D → BM t bl wd mm fn D → t.1 1 = 1 → t.1 9 = 0 → s.1 5 = t.1 6 → ((¬ (s.1 3) = 0 → wp_SpillQueue_powerOff s (fun s3 => wp_M_SpillQueueModel_cut t (fun t1 => wp_M_SpillQueueModel_thrown t1 (fun th t2 => th = 0 ∧ Rel s3 t2)))) ∧ ((s.1 3) = 0 → (0 = 0 ∧ wp_M_SpillQueueModel_cut t (fun t1 => wp_M_SpillQueueModel_thrown t1 (fun th t2 => th = 1 ∧ Rel s t2))))) := by
    intro bl wd mm fn D hB hM h1 h9 e
    have hz := hB.2.2.2.2.1
    refine br_nt (by rw [hB.1]; (first | omega | ((simp (disch := omega) only [li0, li1, li2, li3, li4, li5, li9, li11, li40, li100, li200, li8000, li10000, lt_nI, le_nI, eq_nI]); done) | ((simp (disch := omega) only [li0, li1, li2, li3, li4, li5, li9, li11, li40, li100, li200, li8000, li10000, lt_nI, le_nI, eq_nI]); omega))) (c_off1 hB (fun s1 hD _ _ _ _ _ => ?_))
    unfold wp_M_SpillQueueModel_cut wp_M_SpillQueueModel_die
    refine br_f (by rw [h1]; decide) ?_
    have hF : Fr [0, 8, 10, 12] [] t (up (up (up (up t.1 0 0) 8 0) 10 0) 12 0, t.2) := Fr_u (s' := (up (up (up t.1 0 0) 8 0) 10 0, t.2)) (Fr_u (s' := (up (up t.1 0 0) 8 0, t.2)) (Fr_u (s' := (up t.1 0 0, t.2)) (Fr_u (Fr_refl _ _ _) (by decide)) (by decide)) (by decide)) (by decide)
    refine k_ok0 ?_ (Or.inr (Or.inl ⟨bl, wd, mm, fn, D, s.1 5, hD, BM_fr hM hF (by decide) (by decide), (hF.1 1 (by decide)).trans h1, ?_, (hF.1 9 (by decide)).trans h9, (hF.1 6 (by decide)).trans e.symm⟩))
    · simp [up_i]
    · simp [up_i]
  rcases h with h0 | ⟨bl, wd, mm, fn, D, wr, hC, hM⟩ | ⟨bl, wd, mm, fn, ep, syn, D, wr, cut, km, rs, hC, hM, hW⟩
  · have h := h0
    obtain ⟨d1, d2, d3, d4, d5⟩ := h0
    refine br_nf d2 ⟨rfl, br_t d4 (k_ok0 (th_s t 1) (rel_th (Or.inl h) 1))⟩
  · exact go bl wd mm fn D hC.1 hM.1 hM.2.1 hM.2.2.2.1 (hC.2.2.trans hM.2.2.2.2.symm)
  · exact go bl wd mm fn D hC.1 hM.1 hM.2.1 hM.2.2.2.1 (hC.2.2.2.1.trans hM.2.2.2.2.2.1.symm)
theorem L_cutAt {a1 a2 a3 a4 : Int32} {s : gS} {f : Nat → Int64} {t : gS} (h : Rel s t) : lawStep_cutAt a1 a2 a3 a4 s f t (fun s1 _ t1 => Rel s1 t1) := by
  unfold lawStep_cutAt wp_L_cutAt wp_SpillQueue_cutAt wp_SpillQueue_requireLive
  have e7 : ∀ v, ((up (up t.1 0 v) 7 (t.1 7), t.2) : gS) = (up t.1 0 v, t.2) := fun v => by
    have := up_id (up t.1 0 v) 7
    rw [up_n rfl] at this
    rw [this]
  rcases rel_cases h with ⟨d1, d2⟩ | ⟨bl, wd, mm, fn, ep, syn, D, wr, cut, km, rs, hC, hM, hW⟩
  · refine br_nf d1 (Or.inl ⟨rfl, ?_⟩)
    refine br_nf d2 ?_
    (intro v hv; subst hv)
    rw [e7]
    exact k_ok0 (th_s t 1) (rel_th h 1)
  · have h8 := hM.2.2.1
    refine br_nt (by rw [hC.2.1]; decide) ?_
    have bad : ¬ (¬ a1 < 0 ∧ ¬ 10000 < a1) → wp_M_SpillQueueModel_cutAt a1 t (fun t1 => wp_M_SpillQueueModel_thrown t1 (fun th t2 => th = 2 ∧ Rel s t2)) := by
      intro c
      refine br_nt (by rw [h8]; decide) (m_within ?_)
      rw [decide_eq_false c]
      refine br_nf rfl ?_
      (intro v hv; subst hv)
      rw [e7]
      exact k_ok0 (th_s t 2) (rel_th h 2)
    by_cases c1 : a1 < 0
    · exact br_t c1 (Or.inr ⟨rfl, bad (fun q => q.1 c1)⟩)
    · refine br_f c1 ?_
      by_cases c2 : a1 ≤ 10000
      · obtain ⟨j, hj, e⟩ := ex_nI (k := 10000) (by omega) c1 c2
        refine br_t c2 ?_
        refine br_nt (by rw [h8]; decide) (m_within ?_)
        rw [decide_eq_true ⟨c1, Int32.not_lt.mpr c2⟩]
        refine br_nt (by decide) ?_
        obtain ⟨hB, h2, h1, h5, h6, h7, hMm, hR, hsy⟩ := hC
        obtain ⟨hBm, m1, m8, m9, m11, m6, m7, mM, mR, msy⟩ := hM
        have hF : Fr [6] [] s (up s.1 6 a1, s.2) := Fr_u (Fr_refl _ _ _) (by decide)
        have hFt : Fr [0, 7] [] t (up (up t.1 0 0) 7 a1, t.2) := Fr_u (s' := (up t.1 0 0, t.2)) (Fr_u (Fr_refl _ _ _) (by decide)) (by decide)
        refine k_ok0 (by simp [up_i]) (Or.inr (Or.inr ⟨bl, wd, mm, fn, ep, syn, D, wr, j, km, rs, ⟨BC_fr hB hF (by decide) (by decide), (hF.1 _ (by decide)).trans h2, (hF.1 _ (by decide)).trans h1, (hF.1 _ (by decide)).trans h5, ?_, (hF.1 _ (by decide)).trans h7, hMm, RC_fr hR hF (by decide) (by decide), hsy⟩, ⟨BM_fr hBm hFt (by decide) (by decide), (hFt.1 _ (by decide)).trans m1, (hFt.1 _ (by decide)).trans m8, (hFt.1 _ (by decide)).trans m9, (hFt.1 _ (by decide)).trans m11, (hFt.1 _ (by decide)).trans m6, ?_, MM_fr mM hFt (by decide) (by decide), RM_fr mR hFt (by decide) (by decide), msy⟩, ⟨hj, hW.2⟩⟩))
        · rw [← e]; exact up_s s.1 6 a1
        · rw [← e]; exact up_s (up t.1 0 0) 7 a1
      · exact br_f c2 (Or.inr ⟨rfl, bad (fun q => q.2 (Int32.not_le.mp c2))⟩)
/-! size -/
theorem L_size {a1 a2 a3 a4 : Int32} {s : gS} {f : Nat → Int64} {t : gS} (h : Rel s t) : lawStep_size a1 a2 a3 a4 s f t (fun s1 _ t1 => Rel s1 t1) := by
  unfold lawStep_size wp_SpillQueue_size wp_M_SpillQueueModel_size
  rcases rel_cases h with ⟨d1, d2⟩ | ⟨bl, wd, mm, fn, ep, syn, D, wr, cut, km, rs, hC, hM, hW⟩
  · exact br_t d1 (br_t d2 ⟨rfl, rel_th h 0⟩)
  · refine br_f (by rw [hC.2.1]; decide) ?_
    unfold wp_Memory_howMany
    refine c_keysInAll hC.2.2.2.2.2.2.2.1 ?_
    refine br_f (by rw [hM.2.2.1]; decide) ?_
    have hMt := LM_fr hM (Fr_mono (Fr_th t 0) (by decide) (by decide))
    refine m_size0 hMt.2.2.2.2.2.2.2.2.1 (MM_len hMt.2.2.2.2.2.2.2.1) ⟨?_, rel_th h 0⟩
    rw [hC.2.2.2.2.2.1, nI_add]
/-! words -/
def vw (bl wd : Nat) (a1 a2 : Int32) : Bool := decide (¬ a1 < 0 ∧ ¬ nI bl ≤ a1 ∧ ¬ a2 < 0 ∧ ¬ nI wd ≤ a2)
theorem vw_in {bl wd : Nat} (hz : bl ≤ 200 ∧ wd ≤ 40) {a1 a2 : Int32} (h : vw bl wd a1 a2 = true) : ∃ b i, b < bl ∧ i < wd ∧ a1 = nI b ∧ a2 = nI i := by
  have := of_decide_eq_true h
  obtain ⟨b, hb, e1, -⟩ := pk_mu this.1 this.2.1 (by omega)
  obtain ⟨i, hi, e2, -⟩ := pk_mu this.2.2.1 this.2.2.2 (by omega)
  exact ⟨b, i, hb, hi, e1, e2⟩
theorem c_dhas {s : gS} {bl wd mm fn : Nat} {D : Nat → Nat → Int32} (hB : BC s bl wd mm fn D) {a1 a2 : Int32} {Q : Int32 → gS → Prop} (h : Q (bI (vw bl wd a1 a2)) s) : wp_Disk_has a1 a2 s Q := by
  unfold wp_Disk_has
  rw [hB.1, hB.2.1]
  unfold vw at h
  by_cases c1 : a1 < 0
  · rw [decide_eq_false (fun q => q.1 c1)] at h; exact br_t c1 h
  · refine br_f c1 ?_
    by_cases c2 : nI bl ≤ a1
    · rw [decide_eq_false (fun q => q.2.1 c2)] at h; exact br_t c2 h
    · refine br_f c2 ?_
      by_cases c3 : a2 < 0
      · rw [decide_eq_false (fun q => q.2.2.1 c3)] at h; exact br_t c3 h
      · refine br_f c3 ?_
        by_cases c4 : nI wd ≤ a2
        · rw [decide_eq_false (fun q => q.2.2.2 c4)] at h; exact br_t c4 h
        · rw [decide_eq_true ⟨c1, c2, c3, c4⟩] at h; exact br_f c4 h
theorem pred_lt {k : Nat} (hk : 1 ≤ k ∧ k ≤ 200) {a : Int32} (h0 : ¬ a < 0) : (¬ nI k - 1 < a) ↔ ¬ nI k ≤ a := by
  rw [show nI k - 1 = nI (k - 1) from pk_sub (a := k) (b := 1) (by omega)]
  constructor
  · intro h q
    apply h
    refine Int32.lt_of_lt_of_le ?_ q
    rw [lt_nI (by omega) (by omega)]; omega
  · intro h q
    obtain ⟨j, hj, e, -⟩ := pk_mu h0 h (by omega)
    rw [e, lt_nI (by omega) (by omega)] at q
    omega
theorem m_isWord {t : gS} {bl wd mm fn : Nat} {D : Nat → Nat → Int32} (hB : BM t bl wd mm fn D) (h1 : t.1 1 = 1) {a1 a2 : Int32} {Q : Int32 → gS → Prop} (h : Q (bI (vw bl wd a1 a2)) t) : wp_M_SpillQueueModel_isWord a1 a2 t Q := by
  have hz := hB.2.2.2.2.1
  unfold wp_M_SpillQueueModel_isWord
  refine br_f (by rw [h1]; decide) ?_
  rw [hB.1]
  refine m_within ?_
  rw [hB.2.1]
  unfold vw at h
  by_cases c1 : ¬ a1 < 0 ∧ ¬ nI bl - 1 < a1
  · rw [decide_eq_true c1]
    refine br_f (by decide) (m_within ?_)
    by_cases c2 : ¬ a2 < 0 ∧ ¬ nI wd - 1 < a2
    · rw [decide_eq_true c2]
      rw [decide_eq_true ⟨c1.1, (pred_lt ⟨by omega, by omega⟩ c1.1).mp c1.2, c2.1, (pred_lt ⟨by omega, by omega⟩ c2.1).mp c2.2⟩] at h
      exact br_f (by decide) h
    · rw [decide_eq_false c2]
      rw [decide_eq_false (fun q => c2 ⟨q.2.2.1, (pred_lt ⟨by omega, by omega⟩ q.2.2.1).mpr q.2.2.2⟩)] at h
      exact br_t rfl h
  · rw [decide_eq_false c1]
    rw [decide_eq_false (fun q => c1 ⟨q.1, (pred_lt ⟨by omega, by omega⟩ q.1).mpr q.2.1⟩)] at h
    exact br_t rfl h
theorem c_hasNo {s : gS} (h3 : s.1 3 = 0) {a1 a2 : Int32} {Q : Int32 → gS → Prop} (h : Q 0 s) : wp_Disk_has a1 a2 s Q := by
  unfold wp_Disk_has
  rw [h3]
  by_cases c1 : a1 < 0
  · exact br_t c1 h
  · exact br_f c1 (br_t (Int32.not_lt.mp c1) h)
theorem rel_disk {s t : gS} (h : Rel s t) : NoD s t ∨ ∃ (bl wd mm fn : Nat) (D : Nat → Nat → Int32), BC s bl wd mm fn D ∧ BM t bl wd mm fn D ∧ t.1 1 = 1 ∧ s.1 5 = t.1 6 := by
  rcases h with h0 | ⟨bl, wd, mm, fn, D, wr, hC, hM⟩ | ⟨bl, wd, mm, fn, ep, syn, D, wr, cut, km, rs, hC, hM, hW⟩
  · exact Or.inl h0
  · exact Or.inr ⟨bl, wd, mm, fn, D, hC.1, hM.1, hM.2.1, hC.2.2.trans hM.2.2.2.2.symm⟩
  · exact Or.inr ⟨bl, wd, mm, fn, D, hC.1, hM.1, hM.2.1, hC.2.2.2.1.trans hM.2.2.2.2.2.1.symm⟩
theorem L_word {a1 a2 a3 a4 : Int32} {s : gS} {f : Nat → Int64} {t : gS} (h : Rel s t) : lawStep_word a1 a2 a3 a4 s f t (fun s1 _ t1 => Rel s1 t1) := by
  unfold lawStep_word wp_L_word wp_SpillQueue_word wp_SpillQueue_requireWord
  rcases rel_disk h with ⟨d1, d2, d3, d4, d5⟩ | ⟨bl, wd, mm, fn, D, hB, hM, m1, -⟩
  · refine c_hasNo d2 (br_nf rfl ⟨rfl, ?_⟩)
    exact br_t d4 (br_t rfl (k_th (by decide) (th_s t 1) (rel_th h 1)))
  · have hz := hB.2.2.2.2.1
    refine c_dhas hB ?_
    unfold wp_M_SpillQueueModel_word
    cases hv : vw bl wd a1 a2 with
    | true =>
      obtain ⟨b, i, hb, hi, e1, e2⟩ := vw_in ⟨by omega, by omega⟩ hv
      refine br_nt (by decide) ?_
      rw [e1, e2] at hv ⊢
      refine c_get hB hb hi ?_
      refine m_isWord hM m1 ?_
      rw [hv]
      refine br_f (by decide) ?_
      exact m_at (BM_fr hM (Fr_th t 0) (by decide) (by decide)) hb hi (k_ok (th_s t 0) rfl (rel_th h 0))
    | false =>
      refine br_nf rfl ⟨rfl, ?_⟩
      refine m_isWord hM m1 ?_
      rw [hv]
      exact br_t rfl (k_th (by decide) (th_s t 1) (rel_th h 1))
theorem L_spoil {a1 a2 a3 a4 : Int32} {s : gS} {f : Nat → Int64} {t : gS} (h : Rel s t) : lawStep_spoil a1 a2 a3 a4 s f t (fun s1 _ t1 => Rel s1 t1) := by
  unfold lawStep_spoil wp_L_spoil wp_SpillQueue_spoil wp_SpillQueue_requireWord wp_M_SpillQueueModel_spoil
  rcases h with h0 | ⟨bl, wd, mm, fn, D, wr, hC, hM⟩ | ⟨bl, wd, mm, fn, ep, syn, D, wr, cut, km, rs, hC, hM, hW⟩
  · have h : Rel s t := Or.inl h0
    obtain ⟨d1, d2, d3, d4, d5⟩ := h0
    refine br_t d1 (c_hasNo d2 (br_nf rfl (Or.inr ⟨rfl, ?_⟩)))
    exact br_t d5 (br_t d4 (br_nf rfl (k_ok0 (th_s t 2) (rel_th h 2))))
  · have h : Rel s t := Or.inr (Or.inl ⟨bl, wd, mm, fn, D, wr, hC, hM⟩)
    have hz := hC.1.2.2.2.2.1
    refine br_t hC.2.1 (c_dhas hC.1 ?_)
    cases hv : vw bl wd a1 a2 with
    | true =>
      obtain ⟨b, i, hb, hi, e1, e2⟩ := vw_in ⟨by omega, by omega⟩ hv
      refine br_nt (by decide) ?_
      unfold wp_Disk_turnOver
      refine c_dhas hC.1 ?_
      rw [hv]
      refine br_f (by decide) ?_
      have h8 := mulwd hb hi (by omega : bl ≤ 200) (by omega : wd ≤ 40)
      have ei : a1 * s.1 4 + a2 = nI (b * wd + i) := by rw [e1, e2, hC.1.2.1, pk_mul, nI_add]
      have ej : (40 : Int32) * a1 + a2 = nI (40 * b + i) := by rw [e1, e2, li40, pk_mul, nI_add]
      rw [ei, cl_nI (by omega), hC.1.2.2.2.2.2 b i hb hi]
      refine ⟨vp_in_nI (by omega) (by omega), ?_⟩
      (intro v hv; subst hv)
      refine ⟨vp_in_nI (by omega) (by omega), ?_⟩
      refine br_t hM.2.2.1 (m_isWord hM.1 hM.2.1 ?_)
      rw [hv]
      refine br_nt (by decide) ?_
      rw [ej, cl_nI (by omega), hM.1.2.2.2.2.2 b i hb hi]
      refine ⟨vp_in_nI (by omega) (by omega), ?_⟩
      (intro v hv; subst hv)
      refine ⟨vp_in_nI (by omega) (by omega), ?_⟩
      have hF : Fr [] [0] s (s.1, ua s.2 0 (upd (s.2 0) (b * wd + i) (D b i ^^^ a3))) := Fr_a (Fr_refl _ _ _) (by decide)
      have hFt : Fr [0] [0] t (up t.1 0 0, ua t.2 0 (upd (t.2 0) (40 * b + i) (D b i ^^^ a3))) := Fr_a (s' := (up t.1 0 0, t.2)) (Fr_u (Fr_refl _ _ _) (by decide)) (by decide)
      refine k_ok0 (up_s t.1 0 0) (Or.inr (Or.inl ⟨bl, wd, mm, fn, fun b' i' => if b' = b ∧ i' = i then D b i ^^^ a3 else D b' i', wr, ⟨⟨(hF.1 3 (by decide)).trans hC.1.1, (hF.1 4 (by decide)).trans hC.1.2.1, (hF.1 8 (by decide)).trans hC.1.2.2.1, (hF.1 0 (by decide)).trans hC.1.2.2.2.1, hz, fun b' i' hb' hi' => ?_⟩, hC.2⟩, ⟨(hFt.1 2 (by decide)).trans hM.1.1, (hFt.1 3 (by decide)).trans hM.1.2.1, (hFt.1 4 (by decide)).trans hM.1.2.2.1, (hFt.1 5 (by decide)).trans hM.1.2.2.2.1, hz, fun b' i' hb' hi' => ?_⟩, (hFt.1 1 (by decide)).trans hM.2.1, (hFt.1 8 (by decide)).trans hM.2.2.1, (hFt.1 9 (by decide)).trans hM.2.2.2.1, (hFt.1 6 (by decide)).trans hM.2.2.2.2⟩))
      · rw [p2s]
        show _ = (if b' = b ∧ i' = i then D b i ^^^ a3 else D b' i')
        by_cases c : b' = b ∧ i' = i
        · rw [if_pos c, c.1, c.2, upd_s]
        · rw [if_neg c, upd_n (fun q => c ((idx_eq hi' hi).mp q))]
          exact hC.1.2.2.2.2.2 b' i' hb' hi'
      · rw [p2s]
        show _ = (if b' = b ∧ i' = i then D b i ^^^ a3 else D b' i')
        by_cases c : b' = b ∧ i' = i
        · rw [if_pos c, c.1, c.2, upd_s]
        · rw [if_neg c, upd_n (fun q => c ⟨by omega, by omega⟩)]
          exact hM.1.2.2.2.2.2 b' i' hb' hi'
    | false =>
      refine br_nf rfl (Or.inr ⟨rfl, ?_⟩)
      refine br_t hM.2.2.1 (m_isWord hM.1 hM.2.1 ?_)
      rw [hv]
      exact br_nf rfl (k_ok0 (th_s t 2) (rel_th h 2))
  · have h : Rel s t := Or.inr (Or.inr ⟨bl, wd, mm, fn, ep, syn, D, wr, cut, km, rs, hC, hM, hW⟩)
    refine br_f (by rw [hC.2.1]; decide) (Or.inl ⟨rfl, ?_⟩)
    exact br_f (by rw [hM.2.2.1]; decide) (k_ok0 (th_s t 1) (rel_th h 1))
/-! runs -/
theorem L_run {a1 a2 a3 a4 : Int32} {s : gS} {f : Nat → Int64} {t : gS} (h : Rel s t) : lawStep_run a1 a2 a3 a4 s f t (fun s1 _ t1 => Rel s1 t1) := by
  unfold lawStep_run wp_L_run wp_SpillQueue_run wp_SpillQueue_requireLive wp_M_SpillQueueModel_run
  rcases rel_cases h with ⟨d1, d2⟩ | ⟨bl, wd, mm, fn, ep, syn, D, wr, cut, km, rs, hC, hM, hW⟩
  · refine br_nf d1 (Or.inl ⟨rfl, ?_⟩)
    exact br_nf d2 (k_th (by decide) (th_s t 1) (rel_th h 1))
  · have hz := hC.1.2.2.2.2.1
    have hR := hC.2.2.2.2.2.2.2.1
    have mR := hM.2.2.2.2.2.2.2.2.1
    have h9 := hR.2.1
    have m8 : ¬ t.1 8 = 0 := by rw [hM.2.2.1]; decide
    have hMt := LM_fr hM (Fr_mono (Fr_th t 0) (by decide) (by decide))
    refine br_nt (by rw [hC.2.1]; decide) ?_
    show wp_Runs_has a1 s _
    unfold wp_Runs_has
    rw [hR.1]
    by_cases c1 : a1 < 0
    · exact br_t c1 (br_nf rfl (Or.inr ⟨rfl, br_nt m8 (br_t c1 (k_th (by decide) (th_s t 2) (rel_th h 2)))⟩))
    by_cases c2 : nI rs.length ≤ a1
    · exact br_f c1 (br_t c2 (br_nf rfl (Or.inr ⟨rfl, br_nt m8 (br_f c1 (br_t (by rw [mR.1]; exact c2) (k_th (by decide) (th_s t 2) (rel_th h 2))))⟩)))
    obtain ⟨i, hi, e1, -, e3, -⟩ := pk_mu c1 c2 (by omega)
    refine br_f c1 (br_f c2 (br_nt (by decide) ?_))
    have hr := (hR.2.2 i hi).1
    have mr := mR.2.2 i hi
    have hok := hW.2.2.2.2.2.1 _ (getF_mem hi)
    have hcnt := runOK_cnt ⟨by omega, by omega⟩ hok
    have hr2 := hr.2.2 hok.2.2.1
    have hv9 : vp_in a1 9 := by rw [e1]; exact vp_in_nI (by omega) (by omega)
    have hv16 : vp_in a1 16 := by rw [e1]; exact vp_in_nI (by omega) (by omega)
    have mlt : ¬ t.1 12 ≤ a1 := by rw [mR.1]; exact c2
    rw [e3]
    by_cases w0 : a2 = 0
    · refine br_t w0 ⟨hv9, br_nt m8 (br_f c1 (br_f mlt (m_within ?_)))⟩
      rw [w0]
      exact br_nt (by decide) (br_f (by decide) (br_nf rfl ⟨hv16, k_ok (th_s t 0) (by rw [hr2.1, mr.1]) (rel_th h 0)⟩))
    refine br_f w0 ?_
    by_cases w1 : a2 = 1
    · refine br_t w1 ⟨hv9, br_nt m8 (br_f c1 (br_f mlt (m_within ?_)))⟩
      rw [w1]
      exact br_nt (by decide) (br_f (by decide) (br_nt (by decide) (br_nf rfl ⟨hv16, k_ok (th_s t 0) (by rw [hr2.2.1, mr.2.1]) (rel_th h 0)⟩)))
    refine br_f w1 ?_
    by_cases w2 : a2 = 2
    · refine br_t w2 ⟨hv9, br_nt m8 (br_f c1 (br_f mlt (m_within ?_)))⟩
      rw [w2]
      exact br_nt (by decide) (br_f (by decide) (br_nt (by decide) (br_nt (by decide) ⟨hv16, k_ok (th_s t 0) (by rw [hr.1, mr.2.2.1]) (rel_th h 0)⟩)))
    refine br_f w2 ?_
    by_cases w3 : a2 = 3
    · refine br_t w3 ⟨hv9, br_nt m8 (br_f c1 (br_f mlt (m_within ?_)))⟩
      rw [w3]
      exact br_nt (by decide) (br_t (by decide) (br_nf rfl ⟨hv16, k_ok (th_s t 0) (by rw [hr.2.1, mr.2.2.2]) (rel_th h 0)⟩))
    refine br_f w3 ?_
    by_cases w4 : a2 = 4
    · refine br_t w4 ⟨hv9, hv9, ?_⟩
      rw [hr2.2.1, hr.1, nI_add]
      refine c_blocksFor hC.1 (by omega) ?_
      refine br_nt m8 (br_f c1 (br_f mlt (m_within ?_)))
      rw [w4]
      refine br_nt (by decide) (br_t (by decide) (br_nt (by decide) (br_nf rfl ⟨hv16, hv16, ?_⟩)))
      rw [mr.2.1, mr.2.2.1]
      exact m_blocksOf hMt.1 (by omega) (k_ok (th_s t 0) rfl (rel_th h 0))
    refine br_f w4 ?_
    by_cases w5 : a2 = 5
    · refine br_t w5 ?_
      rw [e1]
      refine c_rheadOf hR hi hok.2.2.1 ?_
      refine br_nt m8 (br_f (by rw [← e1]; exact c1) (br_f (by rw [← e1]; exact mlt) (m_within ?_)))
      rw [w5]
      refine br_nt (by decide) (br_t (by decide) (br_nt (by decide) (br_nt (by decide) ?_)))
      exact m_least hMt.1 hMt.2.2.2.2.2.2.2.2.1 hi hok (k_ok (th_s t 0) rfl (rel_th h 0))
    refine br_f w5 (Or.inr ⟨rfl, br_nt m8 (br_f c1 (br_f mlt (m_within ?_)))⟩)
    have hno : ¬ (¬ a2 < 0 ∧ ¬ 5 < a2) := by
      rintro ⟨q1, q2⟩
      obtain ⟨j, -, hj, e⟩ := ex_rng (lo := 0) (hi := 5) (by omega) (by omega) q1 q2
      have : j = 0 ∨ j = 1 ∨ j = 2 ∨ j = 3 ∨ j = 4 ∨ j = 5 := by omega
      rcases this with rfl | rfl | rfl | rfl | rfl | rfl
      · exact w0 e
      · exact w1 e
      · exact w2 e
      · exact w3 e
      · exact w4 e
      · exact w5 e
    rw [decide_eq_false hno]
    exact br_nf rfl (k_th (by decide) (th_s t 2) (rel_th h 2))
theorem L_about {a1 a2 a3 a4 : Int32} {s : gS} {f : Nat → Int64} {t : gS} (h : Rel s t) : lawStep_about a1 a2 a3 a4 s f t (fun s1 _ t1 => Rel s1 t1) := by
  unfold lawStep_about wp_L_about wp_SpillQueue_about wp_M_SpillQueueModel_about
  have hwr : s.1 5 = t.1 6 := by
    rcases rel_disk h with ⟨d1, d2, d3, d4, d5⟩ | ⟨bl, wd, mm, fn, D, hB, hM, m1, e⟩
    · exact d3
    · exact e
  by_cases w5 : a1 = 5
  · subst w5
    refine br_f (by decide) (br_f (by decide) (br_f (by decide) (br_f (by decide) (br_f (by decide) (br_t rfl (m_within ?_))))))
    exact br_f (by decide) (br_f (by decide) (br_nf rfl (k_ok (th_s t 0) hwr (rel_th h 0))))
  by_cases hrg : ¬ a1 < 0 ∧ ¬ 6 < a1
  · obtain ⟨j, -, hj, e⟩ := ex_rng (lo := 0) (hi := 6) (by omega) (by omega) hrg.1 hrg.2
    have hj2 : j = 0 ∨ j = 1 ∨ j = 2 ∨ j = 3 ∨ j = 4 ∨ j = 6 := by
      have : j ≠ 5 := fun q => w5 (by rw [e, q]; rfl)
      omega
    rcases rel_cases h with ⟨d1, d2⟩ | ⟨bl, wd, mm, fn, ep, syn, D, wr, cut, km, rs, hC, hM, hW⟩
    · rcases hj2 with rfl | rfl | rfl | rfl | rfl | rfl
      · subst e
        refine br_t rfl (br_t d1 (m_within ?_))
        exact br_f (by decide) (br_t (by decide) (br_nf d2 (k_ok (th_s t 0) rfl (rel_th h 0))))
      · subst e
        refine br_f (by decide) (br_t rfl (br_t d1 (m_within ?_)))
        exact br_f (by decide) (br_t (by decide) (br_nf d2 (k_ok (th_s t 0) rfl (rel_th h 0))))
      · subst e
        refine br_f (by decide) (br_f (by decide) (br_t rfl (br_t d1 (m_within ?_))))
        exact br_f (by decide) (br_t (by decide) (br_nf d2 (k_ok (th_s t 0) rfl (rel_th h 0))))
      · subst e
        refine br_f (by decide) (br_f (by decide) (br_f (by decide) (br_t rfl (br_t d1 (m_within ?_)))))
        exact br_f (by decide) (br_t (by decide) (br_nf d2 (k_ok (th_s t 0) rfl (rel_th h 0))))
      · subst e
        refine br_f (by decide) (br_f (by decide) (br_f (by decide) (br_f (by decide) (br_t rfl (br_t d1 (m_within ?_))))))
        exact br_f (by decide) (br_t (by decide) (br_nf d2 (k_ok (th_s t 0) rfl (rel_th h 0))))
      · subst e
        refine br_f (by decide) (br_f (by decide) (br_f (by decide) (br_f (by decide) (br_f (by decide) (br_f (by decide) (br_t rfl (br_t d1 (m_within ?_))))))))
        exact br_f (by decide) (br_f (by decide) (br_nt (by decide) (br_t d2 (k_ok (th_s t 0) rfl (rel_th h 0)))))
    · have l2 : ¬ s.1 2 = 0 := by rw [hC.2.1]; decide
      have l8 : ¬ t.1 8 = 0 := by rw [hM.2.2.1]; decide
      have hMt := LM_fr hM (Fr_mono (Fr_th t 0) (by decide) (by decide))
      rcases hj2 with rfl | rfl | rfl | rfl | rfl | rfl
      · subst e
        refine br_t rfl (br_f l2 (m_within ?_))
        exact br_f (by decide) (br_t (by decide) (br_nt l8 (br_nf rfl (k_ok (th_s t 0) (by rw [hC.2.2.2.2.2.2.2.1.1, hM.2.2.2.2.2.2.2.2.1.1]) (rel_th h 0)))))
      · subst e
        refine br_f (by decide) (br_t rfl (br_f l2 (c_memmany (m_within ?_))))
        exact br_f (by decide) (br_t (by decide) (br_nt l8 (br_nt (by decide) (br_nf rfl (k_ok (th_s t 0) (by rw [hC.2.2.2.2.2.1, MM_len hM.2.2.2.2.2.2.2.1]) (rel_th h 0))))))
      · subst e
        refine br_f (by decide) (br_f (by decide) (br_t rfl (br_f l2 ?_)))
        refine c_gather hC.1 hC.2.2.2.2.2.2.2.1 (fun i hi => hW.2.2.2.2.2.1 _ (getF_mem hi)) hC.2.2.2.2.2.2.2.2 (fun s1 hF1 _ => m_within ?_)
        refine br_f (by decide) (br_t (by decide) (br_nt l8 (br_nt (by decide) (br_nt (by decide) (br_nf rfl ?_)))))
        refine m_free hMt.1 hMt.2.2.2.2.2.2.2.2.1 (fun i hi => hW.2.2.2.2.2.1 _ (getF_mem hi)) hMt.2.2.2.2.2.2.2.2.2 (fun f7 hf7 => k_ok (th_s t 0) rfl ?_)
        exact Or.inr (Or.inr ⟨bl, wd, mm, fn, ep, syn, D, wr, cut, km, rs, LC_fr hC (Fr_mono hF1 (by decide) (by decide)), LM_fr hMt (Fr_a (Fr_refl _ _ _) (by decide)), hW⟩)
      · subst e
        refine br_f (by decide) (br_f (by decide) (br_f (by decide) (br_t rfl (br_f l2 (m_within ?_)))))
        exact br_f (by decide) (br_t (by decide) (br_nt l8 (br_nt (by decide) (br_nt (by decide) (br_nt (by decide) (br_nf rfl (k_ok (th_s t 0) (by rw [hC.2.2.1, hM.2.2.2.2.1]) (rel_th h 0))))))))
      · subst e
        refine br_f (by decide) (br_f (by decide) (br_f (by decide) (br_f (by decide) (br_t rfl (br_f l2 (c_most hC.1 (m_within ?_)))))))
        exact br_f (by decide) (br_t (by decide) (br_nt l8 (br_nt (by decide) (br_nt (by decide) (br_nt (by decide) (br_nt (by decide) (m_most hMt.1 (k_ok (th_s t 0) rfl (rel_th h 0)))))))))
      · subst e
        refine br_f (by decide) (br_f (by decide) (br_f (by decide) (br_f (by decide) (br_f (by decide) (br_f (by decide) (br_t rfl (br_f l2 (m_within ?_))))))))
        exact br_f (by decide) (br_f (by decide) (br_nt (by decide) (br_f l8 (k_ok (th_s t 0) rfl (rel_th h 0)))))
  · have ne : ∀ j : Nat, j ≤ 6 → ¬ a1 = nI j := by
      intro j hj q
      apply hrg
      rw [q]
      exact ⟨nI_pos (by omega), by rw [show (6 : Int32) = nI 6 from rfl, lt_nI (by omega) (by omega)]; omega⟩
    refine br_f (ne 0 (by omega)) (br_f (ne 1 (by omega)) (br_f (ne 2 (by omega)) (br_f (ne 3 (by omega)) (br_f (ne 4 (by omega)) (br_f w5 (br_f (ne 6 (by omega)) ⟨rfl, m_within ?_⟩))))))
    rw [decide_eq_false hrg]
    exact br_t rfl (k_th (by decide) (th_s t 1) (rel_th h 1))
