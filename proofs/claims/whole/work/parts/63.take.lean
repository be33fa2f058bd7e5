/-! take. -/
theorem keptL_congr {cs cs' : Nat → ARun} {n : Nat} (h : ∀ i, i < n → cs i = cs' i) : keptL cs n = keptL cs' n := by
  induction n with
  | zero => rfl
  | succ n ih => unfold keptL; rw [ih (fun i hi => h i (by omega)), h n (by omega)]
theorem take_snoc {rs : List ARun} {n : Nat} (h : n < rs.length) : rs.take (n + 1) = rs.take n ++ [getF rs n] := by
  rw [List.take_succ]
  have : rs[n]? = some (getF rs n) := by simp [getF, List.getD, h]
  rw [this]; rfl
theorem kept_erase {rs : List ARun} {i : Nat} {r : ARun} (hp : ∀ r, r ∈ rs → 0 < r.2.2.1) (hr : r.2.2.1 = 0) (hi : i < rs.length) : ∀ n, n ≤ rs.length → keptL (updR (getF rs) i r) n = (rs.take n).eraseIdx i := by
  intro n
  induction n with
  | zero => intro _; simp [keptL]
  | succ n ih =>
    intro hn
    have hl : (rs.take n).length = n := by rw [List.length_take]; omega
    rw [show keptL (updR (getF rs) i r) (n + 1) = if 0 < (updR (getF rs) i r n).2.2.1 then keptL (updR (getF rs) i r) n ++ [updR (getF rs) i r n] else keptL (updR (getF rs) i r) n from rfl, ih (by omega), take_snoc (show n < rs.length by omega)]
    by_cases c : n = i
    · subst c
      rw [updR_s, hr, if_neg (by omega), List.eraseIdx_append_of_length_le (by omega), hl, Nat.sub_self, List.eraseIdx_of_length_le (by omega)]
      simp
    · rw [updR_n c, if_pos (hp _ (getF_mem (by omega)))]
      by_cases c2 : i < n
      · rw [List.eraseIdx_append_of_lt_length (by omega)]
      · rw [List.eraseIdx_of_length_le (l := rs.take n) (by omega), List.eraseIdx_append_of_length_le (by omega), List.eraseIdx_of_length_le (l := [getF rs n]) (by simp; omega)]
theorem kept_take {bl wd : Nat} {D : Nat → Nat → Int32} {rs : List ARun} {i : Nat} (hok : ∀ r, r ∈ rs → RunOK bl wd D r) (hi : i < rs.length) : keptL (updR (getF rs) i (adv wd (getF rs i))) rs.length = aTake wd rs i := by
  have hc := (hok _ (getF_mem hi)).2.2.1
  unfold aTake
  by_cases c : (getF rs i).2.2.1 = 1
  · rw [if_pos c, kept_erase (fun r hr => (hok r hr).2.2.1) (by rw [adv_cnt, c]) hi rs.length (Nat.le_refl _), List.take_length]
  · rw [if_neg c]
    have := kept_all (rs := rs.set i (adv wd (getF rs i))) (fun r hr => by
      rcases List.mem_or_eq_of_mem_set hr with q | q
      · exact (hok r q).2.2.1
      · rw [q, adv_cnt]; omega)
    rw [List.length_set] at this
    rw [← this]
    exact keptL_congr (fun j hj => (getF_set hi).symm)
theorem aTake_mem {wd : Nat} {rs : List ARun} {i : Nat} {r : ARun} (hr : r ∈ aTake wd rs i) : r ∈ rs ∨ (r = adv wd (getF rs i) ∧ (getF rs i).2.2.1 ≠ 1) := by
  unfold aTake at hr
  split at hr
  · exact Or.inl (List.mem_of_mem_eraseIdx hr)
  · rename_i c
    rcases List.mem_or_eq_of_mem_set hr with q | q
    · exact Or.inl q
    · exact Or.inr ⟨q, c⟩
theorem wf_take {bl wd mm : Nat} {D : Nat → Nat → Int32} {cut : Nat} {km : List Int32} {rs : List ARun} (hw : 11 ≤ wd ∧ wd ≤ 40) (hW : WF bl wd mm D cut km rs) {i : Nat} (hi : i < rs.length) : WF bl wd mm D cut km (aTake wd rs i) := by
  obtain ⟨w1, w2, w3, w4, w5, w6, w7⟩ := hW
  have hoki := w6 _ (getF_mem hi)
  have hc := hoki.2.2.1
  refine ⟨w1, w2, w3, w4, ?_, fun r hr => ?_, fun hl => ?_⟩
  · unfold aTake
    split
    · rw [List.length_eraseIdx]; split <;> omega
    · rw [List.length_set]; exact w5
  · rcases aTake_mem hr with q | ⟨q, c⟩
    · exact w6 r q
    · rw [q]; exact runOK_adv hw hoki (by omega)
  · unfold aTake at hl ⊢
    split at hl
    · rw [List.length_eraseIdx, if_pos hi] at hl; omega
    · rename_i c
      rw [List.length_set] at hl
      rw [if_neg c]
      obtain ⟨r, hr, hlv⟩ := w7 hl
      obtain ⟨j, hj, e⟩ := List.getElem_of_mem hr
      have e' : getF rs j = r := by rw [← e]; simp [getF, List.getD, hj]
      by_cases cj : j = i
      · subst cj
        exact ⟨_, List.mem_set hi _, by rw [adv_lev, e']; exact hlv⟩
      · refine ⟨r, ?_, hlv⟩
        have hm := getF_mem (rs := rs.set i (adv wd (getF rs i))) (i := j) (by rw [List.length_set]; exact hj)
        rw [getF_set hi, updR_n cj, e'] at hm
        exact hm
theorem fall_take {km : List Int32} (h : Fall km) (n : Nat) : Fall (km.take n) := List.Pairwise.sublist (List.take_sublist n km) h
theorem L_take {a1 a2 a3 a4 : Int32} {s : gS} {f : Nat → Int64} {t : gS} (h : Rel s t) : lawStep_take a1 a2 a3 a4 s f t (fun s1 _ t1 => Rel s1 t1) := by
  unfold lawStep_take wp_L_take wp_SpillQueue_take wp_SpillQueue_requireLive
  rcases rel_cases h with ⟨d1, d2⟩ | ⟨bl, wd, mm, fn, ep, syn, D, wr, cut, km, rs, hC, hM, hW⟩
  · refine br_nf d1 ⟨rfl, ?_⟩
    exact br_t d2 (k_th (by decide) (th_s t 1) (rel_th h 1))
  · have hz := hC.1.2.2.2.2.1
    have w3 := hW.2.2.1
    have hR := hC.2.2.2.2.2.2.2.1
    have hok := hW.2.2.2.2.2.1
    have hp : ∀ r, r ∈ rs → 0 < r.2.2.1 := fun r hr => (hok r hr).2.2.1
    have hMt := LM_fr hM (Fr_mono (Fr_th t 0) (by decide) (by decide))
    have h8 : ¬ t.1 8 = 0 := by rw [hM.2.2.1]; decide
    have e10 := MM_len hMt.2.2.2.2.2.2.2.1
    have mR := hMt.2.2.2.2.2.2.2.2.1
    have h9 := hR.2.1
    refine br_nt (by rw [hC.2.1]; decide) ?_
    refine c_leastAll hR hp ?_
    refine c_isLeast hC (by omega) hp ?_
    cases hin : inMem D km rs with
    | true =>
      have hk : 0 < km.length := by
        unfold inMem at hin; simp only [Bool.and_eq_true, decide_eq_true_eq] at hin; exact hin.1
      refine br_f (by decide) ?_
      have hminV : minV D km rs = keyMem km 0 := by unfold minV; rw [if_pos hin]
      have etk : km.take (km.length - 0) = km := by simp
      have htl := take_last (km := km) (j := 0) hk
      rw [etk] at htl
      have hlen' : (km.take (km.length - (0 + 1))).length = km.length - 1 := by rw [List.length_take]; omega
      have hW' : WF bl wd mm D cut (km.take (km.length - (0 + 1))) rs := ⟨hW.1, fall_take hW.2.1 _, by omega, fun k hkk => hW.2.2.2.1 k (List.mem_of_mem_take hkk), hW.2.2.2.2⟩
      refine c_memtake hC.2.2.2.2.2.1 (by omega) hk hC.2.2.2.2.2.2.1 ?_
      obtain ⟨hB, h2, h1, h5, h6, h7, hMm, hRc, hsy⟩ := hC
      have hF : Fr [7] [] s (up s.1 7 (nI (km.length - 1)), s.2) := Fr_u (Fr_refl _ _ _) (by decide)
      have hC' : LC bl wd mm fn ep syn (up s.1 7 (nI (km.length - 1)), s.2) D wr cut (km.take (km.length - (0 + 1))) rs := by
        refine ⟨BC_fr hB hF (by decide) (by decide), (hF.1 _ (by decide)).trans h2, (hF.1 _ (by decide)).trans h1, (hF.1 _ (by decide)).trans h5, (hF.1 _ (by decide)).trans h6, ?_, fun i hi => ?_, RC_fr hRc hF (by decide) (by decide), hsy⟩
        · rw [hlen']; exact up_s s.1 7 _
        · rw [hlen'] at hi
          rw [takeI (by omega)]; exact hMm i (by omega)
      unfold wp_M_SpillQueueModel_take
      refine br_f h8 (m_leastKey hMt hW ?_)
      refine br_f (by rw [e10]; (first | omega | ((simp (disch := omega) only [li0, li1, li2, li3, li4, li5, li9, li11, li40, li100, li200, li8000, li10000, lt_nI, le_nI, eq_nI]); done) | ((simp (disch := omega) only [li0, li1, li2, li3, li4, li5, li9, li11, li40, li100, li200, li8000, li10000, lt_nI, le_nI, eq_nI]); omega))) ?_
      refine m_leastMem hMt.2.2.2.2.2.2.2.1 (by omega) hW.2.1 hW.2.2.2.1 ?_
      refine br_nf (by rw [hminV]; unfold lMem; rw [if_neg (by omega)]) ?_
      have hMM := hMt.2.2.2.2.2.2.2.1
      have hMM' : MM (up t.1 0 0, t.2) (km.take (km.length - (0 + 1)) ++ [keyMem km 0]) := by rw [← htl]; exact hMM
      refine m_takeMem hMM' (by omega) (least_last hW.2.1 hk) (fun t1 hF1 hM1 => ?_)
      obtain ⟨mB, m1, m8, m9, m11, m6, m7, mM, mR2, msy⟩ := hMt
      refine k_ok ((hF1.1 0 (by decide)).trans (th_s t 0)) rfl (Or.inr (Or.inr ⟨bl, wd, mm, fn, ep, syn, D, wr, cut, _, rs, hC', ⟨BM_fr mB hF1 (by decide) (by decide), (hF1.1 _ (by decide)).trans m1, (hF1.1 _ (by decide)).trans m8, (hF1.1 _ (by decide)).trans m9, (hF1.1 _ (by decide)).trans m11, (hF1.1 _ (by decide)).trans m6, (hF1.1 _ (by decide)).trans m7, hM1, RM_fr mR2 hF1 (by decide) (by decide), by rw [hF1.2 6 (by decide)]; exact msy⟩, hW'⟩))
    | false =>
      refine br_t rfl ?_
      -- the reference's way to its runs
      have toRun : ∀ (Q : Int32 → gS → Prop), ((0 ≤ oI (pAll D rs) → vp_in (oI (pAll D rs)) 16 ∧ (∀ v9 : Int32, v9 = ((up t.1 0 0, t.2) : gS).2 4 (oI (pAll D rs)).toNatClampNeg - 1 → vp_in (oI (pAll D rs)) 16 ∧ (vp_in (oI (pAll D rs)) 16 ∧ (∀ v12 : Int32, v12 = ((up t.1 0 0, t.2) : gS).2 3 (oI (pAll D rs)).toNatClampNeg + 1 → vp_in (oI (pAll D rs)) 16 ∧ (vp_in (oI (pAll D rs)) 16 ∧ (((¬ ((upd (((up t.1 0 0, t.2) : gS).2 4) (oI (pAll D rs)).toNatClampNeg v9) (oI (pAll D rs)).toNatClampNeg) = 0 → vp_in (oI (pAll D rs)) 16 ∧ (wp_M_SpillQueueModel_room (((up t.1 0 0, t.2) : gS).1, ua (ua ((up t.1 0 0, t.2) : gS).2 4 (upd (((up t.1 0 0, t.2) : gS).2 4) (oI (pAll D rs)).toNatClampNeg v9)) 3 (upd (((up t.1 0 0, t.2) : gS).2 3) (oI (pAll D rs)).toNatClampNeg v12)) (fun r18 s17 => ((¬ ((upd (((up t.1 0 0, t.2) : gS).2 3) (oI (pAll D rs)).toNatClampNeg v12) (oI (pAll D rs)).toNatClampNeg) = r18 → Q (minV D km rs) s17) ∧ (((upd (((up t.1 0 0, t.2) : gS).2 3) (oI (pAll D rs)).toNatClampNeg v12) (oI (pAll D rs)).toNatClampNeg) = r18 → vp_in (oI (pAll D rs)) 16 ∧ (wp_M_SpillQueueModel_at (s17.2 2 (oI (pAll D rs)).toNatClampNeg) 1 s17 (fun r22 s21 => vp_in (oI (pAll D rs)) 16 ∧ (vp_in (oI (pAll D rs)) 16 ∧ (Q (minV D km rs) (s21.1, ua (ua s21.2 2 (upd (s21.2 2) (oI (pAll D rs)).toNatClampNeg r22)) 3 (upd (s21.2 3) (oI (pAll D rs)).toNatClampNeg 0))))))))))) ∧ (((upd (((up t.1 0 0, t.2) : gS).2 4) (oI (pAll D rs)).toNatClampNeg v9) (oI (pAll D rs)).toNatClampNeg) = 0 → wp_M_SpillQueueModel_dropRun (oI (pAll D rs)) (((up t.1 0 0, t.2) : gS).1, ua (ua ((up t.1 0 0, t.2) : gS).2 4 (upd (((up t.1 0 0, t.2) : gS).2 4) (oI (pAll D rs)).toNatClampNeg v9)) 3 (upd (((up t.1 0 0, t.2) : gS).2 3) (oI (pAll D rs)).toNatClampNeg v12)) (fun s25 => Q (minV D km rs) s25))))))))) ∧ (¬ 0 ≤ oI (pAll D rs) → Q (minV D km rs) (up t.1 0 0, t.2))) → wp_M_SpillQueueModel_take t Q := by
        intro Q hQ
        unfold wp_M_SpillQueueModel_take
        refine br_f h8 (m_leastKey hMt hW ?_)
        by_cases ck : km.length = 0
        · refine br_t (by rw [e10, ck]; decide) (m_leastRun hMt.1 mR hok hQ)
        · refine br_f (by rw [e10]; (first | omega | ((simp (disch := omega) only [li0, li1, li2, li3, li4, li5, li9, li11, li40, li100, li200, li8000, li10000, lt_nI, le_nI, eq_nI]); done) | ((simp (disch := omega) only [li0, li1, li2, li3, li4, li5, li9, li11, li40, li100, li200, li8000, li10000, lt_nI, le_nI, eq_nI]); omega))) ?_
          refine m_leastMem hMt.2.2.2.2.2.2.2.1 (by omega) hW.2.1 hW.2.2.2.1 ?_
          refine br_nt ?_ (m_leastRun hMt.1 mR hok hQ)
          unfold lMem minV
          rw [if_neg ck, hin]
          unfold inMem at hin
          rw [decide_eq_true (by omega), Bool.true_and] at hin
          cases hq : pAll D rs with
          | none => rw [hq] at hin; cases hin
          | some i =>
            rw [hq] at hin
            simp only at hin
            have := of_decide_eq_false hin
            intro q
            apply this
            have q : keyMem km 0 = aH D (getF rs i) := q
            rw [q]; exact Int32.le_refl _
      cases hq : pAll D rs with
      | none =>
        have hmV : minV D km rs = -1 := by unfold minV; rw [hin, hq]; rfl
        refine c_hNone (br_nf rfl ?_)
        refine c_dropEmpty hR (fun s1 hF1 hR1 => toRun _ ?_)
        rw [kept_all hp] at hR1
        rw [hq]
        refine br_f (by decide) (k_ok (th_s t 0) hmV.symm ?_)
        obtain ⟨hB, h2, h1, h5, h6, h7, hMm, hRc, hsy⟩ := hC
        exact Or.inr (Or.inr ⟨bl, wd, mm, fn, ep, syn, D, wr, cut, km, rs, ⟨BC_fr hB hF1 (by decide) (by decide), (hF1.1 _ (by decide)).trans h2, (hF1.1 _ (by decide)).trans h1, (hF1.1 _ (by decide)).trans h5, (hF1.1 _ (by decide)).trans h6, (hF1.1 _ (by decide)).trans h7, by rw [hF1.2 2 (by decide)]; exact hMm, hR1, by rw [hF1.2 10 (by decide)]; exact hsy⟩, hMt, hW⟩)
      | some i =>
        have hi := pAll_lt hq
        have hoki := hok _ (getF_mem hi)
        have hmV : minV D km rs = aH D (getF rs i) := by unfold minV; rw [hin, hq]; rfl
        refine c_takeFrom hC.1 hR hi (hp _ (getF_mem hi)) hoki (fun s1 hF1 hR1 => ?_)
        refine c_dropEmpty hR1 (fun s2 hF2 hR2 => toRun _ ?_)
        rw [kept_take hok hi] at hR2
        rw [hq]
        refine br_t (nI_pos' (by omega)) ?_
        refine m_takeRun (k := minV D km rs) (Q := fun b1 t1 => wp_M_SpillQueueModel_thrown t1 (fun th t2 => th = 0 ∧ ((¬ (0 : Int32) = 0 → Rel s2 t2) ∧ ((0 : Int32) = 0 → lg_cmp ((vp_updL f (0 : Int32).toNatClampNeg (aH D (getF rs i)).toInt64) (0 : Int32).toNatClampNeg) b1.toInt64 = 0 ∧ Rel s2 t2)))) hMt.1 mR hi hoki (fun t1 hFt hRt => ?_)
        have hF : Fr [9] [3, 4, 5, 6, 7] s s2 := Fr_trans (Fr_mono hF1 (by decide) (by decide)) hF2
        obtain ⟨hB, h2, h1, h5, h6, h7, hMm, hRc, hsy⟩ := hC
        obtain ⟨mB, m1, m8, m9, m11, m6, m7, mM, mR2, msy⟩ := hMt
        refine k_ok ((hFt.1 0 (by decide)).trans (th_s t 0)) hmV.symm ?_
        exact Or.inr (Or.inr ⟨bl, wd, mm, fn, ep, syn, D, wr, cut, km, aTake wd rs i, ⟨BC_fr hB hF (by decide) (by decide), (hF.1 _ (by decide)).trans h2, (hF.1 _ (by decide)).trans h1, (hF.1 _ (by decide)).trans h5, (hF.1 _ (by decide)).trans h6, (hF.1 _ (by decide)).trans h7, by rw [hF.2 2 (by decide)]; exact hMm, hR2, by rw [hF.2 10 (by decide)]; exact hsy⟩, ⟨BM_fr mB hFt (by decide) (by decide), (hFt.1 _ (by decide)).trans m1, (hFt.1 _ (by decide)).trans m8, (hFt.1 _ (by decide)).trans m9, (hFt.1 _ (by decide)).trans m11, (hFt.1 _ (by decide)).trans m6, (hFt.1 _ (by decide)).trans m7, MM_fr mM hFt (by decide) (by decide), hRt, by rw [hFt.2 6 (by decide)]; exact msy⟩, wf_take ⟨by omega, by omega⟩ hW hi⟩)
