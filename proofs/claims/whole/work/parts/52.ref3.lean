/-! The reference: a run is written. -/
theorem dec1 {n : Nat} (h : 1 ≤ n) : nI n + Int32.ofInt (-1) = nI (n - 1) := by
  obtain ⟨k, rfl⟩ : ∃ k, n = k + 1 := ⟨n - 1, by omega⟩
  rw [show Int32.ofInt (-1) = (-1 : Int32) from by decide, pk_m1]; rfl
theorem m_keys {bl wd mm fn : Nat} {SM : Nat → gS → Prop} {key : Nat → Int32} {Agr : (Nat → Nat → Int32) → Prop} {count : Nat} {x2 : Int32}
    (hstep : ∀ (Dc : Nat → Nat → Int32) (t : gS) (j : Nat) (Q1 : Int32 → gS → Prop), BM t bl wd mm fn Dc → Agr Dc → SM j t → j < count → (∀ t', Fr [10] [1, 10, 11, 12] t t' → SM (j + 1) t' → Q1 (key j) t') → ((x2 = 0 → wp_M_SpillQueueModel_takeFromRuns t Q1) ∧ (¬ x2 = 0 → wp_M_SpillQueueModel_takeFromMemory t Q1)))
    (hfr : ∀ (t t' : gS) (j : Nat), Fr [6, 7, 9] [0, 8] t t' → SM j t → SM j t')
    {Dc : Nat → Nat → Int32} (hA : Agr Dc) {base here : Nat} (hh : here ≤ wd - 2) (hw : wd ≤ 40) (hbc : base + here ≤ count) (hor : here = wd - 2 ∨ base + here = count) (hcb : count < 2 ^ 20) {nx : Int32} {Q : gS → Prop} {K : Int32 → Int32 → gS → Prop} {x1 x3 x5 : Int32} (t0 : gS)
    (h : ∀ t', Fr [10] [1, 8, 10, 11, 12] t0 t' → SM (base + here) t' → (∀ i, i < 40 → t'.2 8 i = rowOf nx (fun i => key (base + i)) here i) → K (nI (count - base - here)) (nI here) t') :
    ∀ (m k : Nat) (t : gS), k + m = here → Fr [10] [1, 8, 10, 11, 12] t0 t → BM t bl wd mm fn Dc → SM (base + k) t → (∀ i, i < 40 → t.2 8 i = rowOf nx (fun i => key (base + i)) k i) → wl_M_SpillQueueModel_writeKeys_60 Q K x1 x2 x3 x5 (m + 1) (nI (count - base - k)) (nI k) t := by
  intro m
  induction m with
  | zero =>
    intro k t hk hF hB hS hr
    have : k = here := by omega
    subst this
    refine m_room hB ?_
    have fin := h t hF hS hr
    by_cases c : k = wd - 2
    · exact br_t (by (first | omega | ((simp (disch := omega) only [li0, li1, li2, li3, li4, li5, li9, li11, li40, li100, li200, li8000, li10000, lt_nI, le_nI, eq_nI]); done) | ((simp (disch := omega) only [li0, li1, li2, li3, li4, li5, li9, li11, li40, li100, li200, li8000, li10000, lt_nI, le_nI, eq_nI]); omega))) fin
    · exact br_f (by (first | omega | ((simp (disch := omega) only [li0, li1, li2, li3, li4, li5, li9, li11, li40, li100, li200, li8000, li10000, lt_nI, le_nI, eq_nI]); done) | ((simp (disch := omega) only [li0, li1, li2, li3, li4, li5, li9, li11, li40, li100, li200, li8000, li10000, lt_nI, le_nI, eq_nI]); omega))) (br_t (by (first | omega | ((simp (disch := omega) only [li0, li1, li2, li3, li4, li5, li9, li11, li40, li100, li200, li8000, li10000, lt_nI, le_nI, eq_nI]); done) | ((simp (disch := omega) only [li0, li1, li2, li3, li4, li5, li9, li11, li40, li100, li200, li8000, li10000, lt_nI, le_nI, eq_nI]); omega))) fin)
  | succ m ih =>
    intro k t hk hF hB hS hr
    refine m_room hB ?_
    refine br_f (by (first | omega | ((simp (disch := omega) only [li0, li1, li2, li3, li4, li5, li9, li11, li40, li100, li200, li8000, li10000, lt_nI, le_nI, eq_nI]); done) | ((simp (disch := omega) only [li0, li1, li2, li3, li4, li5, li9, li11, li40, li100, li200, li8000, li10000, lt_nI, le_nI, eq_nI]); omega))) (br_f (by (first | omega | ((simp (disch := omega) only [li0, li1, li2, li3, li4, li5, li9, li11, li40, li100, li200, li8000, li10000, lt_nI, le_nI, eq_nI]); done) | ((simp (disch := omega) only [li0, li1, li2, li3, li4, li5, li9, li11, li40, li100, li200, li8000, li10000, lt_nI, le_nI, eq_nI]); omega))) ?_)
    refine hstep Dc t (base + k) _ hB hA hS (by omega) (fun t1 hF1 hS1 => ?_)
    rw [li2, nI_add]
    refine ⟨vp_in_nI (by omega) (by omega), ?_⟩
    rw [dec1 (by omega), nI_1, cl_nI (by omega)]
    (intro v hv; subst hv)
    (intro v hv; subst hv)
    rw [show count - base - k - 1 = count - base - (k + 1) by omega]
    have hF2 : Fr [10] [1, 8, 10, 11, 12] t (t1.1, ua t1.2 8 (upd (t1.2 8) (2 + k) (key (base + k)))) := Fr_a (Fr_mono hF1 (by decide) (by decide)) (by decide)
    refine ih (k + 1) _ (by omega) (Fr_trans hF hF2) (BM_fr hB hF2 (by decide) (by decide)) (hfr t1 _ _ (Fr_a (Fr_refl _ _ _) (by decide)) hS1) ?_
    rw [p2s]
    exact rowOf_succ (g := fun i => key (base + i)) (fun i hi => by rw [hF1.2 8 (by decide)]; exact hr i hi)
theorem m_blocks {bl wd mm fn : Nat} {SM : Nat → gS → Prop} {key : Nat → Int32} {Agr : (Nat → Nat → Int32) → Prop} {count : Nat} {x2 : Int32}
    (hstep : ∀ (Dc : Nat → Nat → Int32) (t : gS) (j : Nat) (Q1 : Int32 → gS → Prop), BM t bl wd mm fn Dc → Agr Dc → SM j t → j < count → (∀ t', Fr [10] [1, 10, 11, 12] t t' → SM (j + 1) t' → Q1 (key j) t') → ((x2 = 0 → wp_M_SpillQueueModel_takeFromRuns t Q1) ∧ (¬ x2 = 0 → wp_M_SpillQueueModel_takeFromMemory t Q1)))
    (hfr : ∀ (t t' : gS) (j : Nat), Fr [6, 7, 9] [0, 8] t t' → SM j t → SM j t')
    {D0 : Nat → Nat → Int32} {fl : List Nat} {need cut : Nat} {wr : Int32} {t0 : gS} (hz : (4 ≤ bl ∧ bl ≤ 200 ∧ 11 ≤ wd ∧ wd ≤ 40 ∧ 1 ≤ mm ∧ mm ≤ 100 ∧ 2 ≤ fn ∧ fn ≤ 5)) (hneed : need = needN wd count) (hcb : count < 2 ^ 20) (hnl : need ≤ fl.length) (hfl : fl.length ≤ 200) (hfm : ∀ x, x ∈ fl → x < bl) (hf : ∀ i, i < need → t0.2 9 i = nI (fl.getD i 0)) (hcut : cut ≤ 10000)
    (hA : ∀ k, k ≤ need → Agr (Dw wd fl need count key D0 k)) {Q : gS → Prop} {x1 : Int32}
    (hEnd : ¬ (1 ≤ cut ∧ cut ≤ need) → ∀ t, Fr [6, 7, 9, 10] [0, 1, 8, 10, 11, 12] t0 t → BM t bl wd mm fn (Dw wd fl need count key D0 need) → t.1 7 = nI (cut - need) → t.1 6 = wr + nI need → t.1 9 = 0 → SM count t → Q t)
    (hCut : 1 ≤ cut ∧ cut ≤ need → ∀ t, Fr [6, 7, 9, 10] [0, 1, 8, 10, 11, 12] t0 t → BM t bl wd mm fn (Dw wd fl need count key D0 (cut - 1)) → t.1 6 = wr + nI (cut - 1) → t.1 9 = 1 → Q t) :
    ∀ (m k : Nat) (t : gS), k + m = need → Fr [6, 7, 9, 10] [0, 1, 8, 10, 11, 12] t0 t → BM t bl wd mm fn (Dw wd fl need count key D0 k) → t.1 7 = nI (cut - k) → (cut = 0 ∨ k < cut) → t.1 6 = wr + nI k → t.1 9 = 0 → SM (min (k * (wd - 2)) count) t → wl_M_SpillQueueModel_writeKeys_13 Q (fun v45 v46 s44 => Q s44) x1 x2 (nI need) (m + 1) (nI (count - min (k * (wd - 2)) count)) (nI k) t := by
  have hn2 : need = (count + (wd - 2 - 1)) / (wd - 2) := by rw [hneed]; unfold needN; congr 1
  intro m
  induction m with
  | zero =>
    intro k t hk hF hB h7 hck h6 h9 hS
    have : k = need := by omega
    subst this
    have hge := ceil_ge (by omega) hn2
    rw [Nat.min_eq_right hge] at hS
    exact br_t (by (first | omega | ((simp (disch := omega) only [li0, li1, li2, li3, li4, li5, li9, li11, li40, li100, li200, li8000, li10000, lt_nI, le_nI, eq_nI]); done) | ((simp (disch := omega) only [li0, li1, li2, li3, li4, li5, li9, li11, li40, li100, li200, li8000, li10000, lt_nI, le_nI, eq_nI]); omega))) (hEnd (by omega) t hF hB h7 h6 h9 hS)
  | succ m ih =>
    intro k t hk hF hB h7 hck h6 h9 hS
    have hlt := ceil_lt (by omega) hn2 (show k < need by omega)
    have hh := here_pos hlt (show 0 < wd - 2 by omega)
    rw [min_lt hlt] at hS ⊢
    refine br_f (by (first | omega | ((simp (disch := omega) only [li0, li1, li2, li3, li4, li5, li9, li11, li40, li100, li200, li8000, li10000, lt_nI, le_nI, eq_nI]); done) | ((simp (disch := omega) only [li0, li1, li2, li3, li4, li5, li9, li11, li40, li100, li200, li8000, li10000, lt_nI, le_nI, eq_nI]); omega))) (br_nf h9 ?_)
    refine m_clearRow (fun f hf0 => ?_)
    have tail : ∀ nx : Int32, nx = nxN fl need k → ∀ tx : gS, Fr [] [8] t tx → (∀ i, i < 40 → tx.2 8 i = rowOf nx (fun i => key (k * (wd - 2) + i)) 0 i) → ∃ n24 : Nat, wl_M_SpillQueueModel_writeKeys_60 Q (fun v26 v27 s25 => vp_in (nI k) 200 ∧ (wp_M_SpillQueueModel_write (s25.2 9 (nI k).toNatClampNeg) s25 (fun s29 => ∀ v31 : Int32, v31 = nI (k + 1) → wl_M_SpillQueueModel_writeKeys_13 Q (fun v45 v46 s44 => Q s44) x1 x2 (nI need) (m + 1) v26 v31 s29))) x1 x2 (nI need) (nI k) n24 (nI (count - k * (wd - 2))) 0 tx := by
      intro nx hnx tx hFx hrx
      refine ⟨hereN (wd - 2) count k + 1, ?_⟩
      refine m_keys hstep hfr (hA k (by omega)) (base := k * (wd - 2)) (here := hereN (wd - 2) count k) (by omega) (by omega) (by omega) (by unfold hereN; split <;> omega) hcb (nx := nx) tx (fun t1 hF1 hS1 hrow => ?_) _ 0 tx (by omega) (Fr_refl _ _ _) (BM_fr hB hFx (by decide) (by decide)) (hfr t tx _ (Fr_mono hFx (by decide) (by decide)) hS) hrx
      have hFs : Fr [10] [1, 8, 10, 11, 12] t t1 := Fr_trans (Fr_mono hFx (by decide) (by decide)) hF1
      have hB1 := BM_fr hB hFs (by decide) (by decide)
      have hFs' := Fr_mono (X' := [6, 7, 9, 10]) (Y' := [0, 1, 8, 10, 11, 12]) hFs (by decide) (by decide)
      refine ⟨vp_in_nI (by omega) (by omega), ?_⟩
      have e9 : t1.2 9 (nI k).toNatClampNeg = nI (fl.getD k 0) := by
        rw [cl_nI (by omega), hFs.2 9 (by decide), hF.2 9 (by decide)]
        exact hf k (by omega)
      rw [e9]
      have erest : count - k * (wd - 2) - hereN (wd - 2) count k = count - min ((k + 1) * (wd - 2)) count := by
        rw [← here_min hlt]; omega
      rw [erest]
      refine m_write hB1 (cut := cut - k) (hfm _ (getDN_mem (by omega))) ((hFs.1 9 (by decide)).trans h9) ((hFs.1 7 (by decide)).trans h7) (by omega) (fun c1 => ?_) (fun c1 f1 hB2 => ?_)
      · (intro v hv; subst hv)
        have fin := hCut (by omega) (up t1.1 9 1, t1.2) (Fr_u (Fr_trans hF hFs') (by decide)) (by
            rw [show cut - 1 = k by omega]
            exact BM_fr hB1 (Fr_u (X := [9]) (Y := []) (Fr_refl _ _ _) (by decide)) (by decide) (by decide)) (by
            show up t1.1 9 1 6 = _
            rw [up_n rfl, hFs.1 6 (by decide), h6, show cut - 1 = k by omega]) (by show up t1.1 9 1 9 = _; rw [up_s])
        by_cases c : need ≤ k + 1
        · exact br_t (by (first | omega | ((simp (disch := omega) only [li0, li1, li2, li3, li4, li5, li9, li11, li40, li100, li200, li8000, li10000, lt_nI, le_nI, eq_nI]); done) | ((simp (disch := omega) only [li0, li1, li2, li3, li4, li5, li9, li11, li40, li100, li200, li8000, li10000, lt_nI, le_nI, eq_nI]); omega))) fin
        · exact br_f (by (first | omega | ((simp (disch := omega) only [li0, li1, li2, li3, li4, li5, li9, li11, li40, li100, li200, li8000, li10000, lt_nI, le_nI, eq_nI]); done) | ((simp (disch := omega) only [li0, li1, li2, li3, li4, li5, li9, li11, li40, li100, li200, li8000, li10000, lt_nI, le_nI, eq_nI]); omega))) (br_nt (by show ¬ up t1.1 9 1 9 = 0; rw [up_s]; decide) fin)
      · (intro v hv; subst hv)
        have hFw : Fr [6, 7, 9, 10] [0, 1, 8, 10, 11, 12] t1 (up (up t1.1 7 (nI (cut - k - 1))) 6 (t1.1 6 + 1), ua t1.2 0 f1) := Fr_a (s' := (up (up t1.1 7 _) 6 _, t1.2)) (Fr_u (s' := (up t1.1 7 _, t1.2)) (Fr_u (Fr_refl _ _ _) (by decide)) (by decide)) (by decide)
        refine ih (k + 1) _ (by omega) (Fr_trans hF (Fr_trans hFs' hFw)) ?_ ?_ (by omega) ?_ ?_ ?_
        · refine BM_D hB2 (fun b i hb hi => ?_)
          rw [Dw]
          refine wrB_congr rfl (fun j hj => ?_) hi
          rw [hrow j (by omega), hnx]; rfl
        · show up (up t1.1 7 (nI (cut - k - 1))) 6 (t1.1 6 + 1) 7 = _
          rw [up_n rfl, up_s, Nat.sub_sub]
        · show up (up t1.1 7 (nI (cut - k - 1))) 6 (t1.1 6 + 1) 6 = _
          rw [up_s, hFs.1 6 (by decide), h6, Int32.add_assoc, nI_1]
        · show up (up t1.1 7 (nI (cut - k - 1))) 6 (t1.1 6 + 1) 9 = _
          rw [up_n rfl, up_n rfl, hFs.1 9 (by decide), h9]
        · rw [← here_min hlt]
          exact hfr t1 _ _ (Fr_a (s' := (up (up t1.1 7 _) 6 _, t1.2)) (Fr_u (s' := (up t1.1 7 _, t1.2)) (Fr_u (Fr_refl _ _ _) (by decide)) (by decide)) (by decide)) hS1
    have hFx : ∀ g, Fr [] [8] t (t.1, ua (ua t.2 8 f) 8 g) := fun g => Fr_a (s' := (t.1, ua t.2 8 f)) (Fr_a (Fr_refl _ _ _) (by decide)) (by decide)
    have hrx : ∀ nx : Int32, ∀ i, i < 40 → ((t.1, ua (ua t.2 8 f) 8 (upd (ua t.2 8 f 8) 1 nx)) : gS).2 8 i = rowOf nx (fun i => key (k * (wd - 2) + i)) 0 i := by
      intro nx i hi
      rw [p2s, rowOf_0, ua_s]
      by_cases e : i = 1
      · subst e; rw [upd_s, if_pos rfl]
      · rw [upd_n e, if_neg e]; exact hf0 i hi
    rw [nI_1, show (1 : Int32).toNatClampNeg = 1 from by decide]
    by_cases c : need ≤ k + 1
    · refine br_t (by (first | omega | ((simp (disch := omega) only [li0, li1, li2, li3, li4, li5, li9, li11, li40, li100, li200, li8000, li10000, lt_nI, le_nI, eq_nI]); done) | ((simp (disch := omega) only [li0, li1, li2, li3, li4, li5, li9, li11, li40, li100, li200, li8000, li10000, lt_nI, le_nI, eq_nI]); omega))) ⟨vp_in_nI (n := 1) (by omega) (by omega), ?_⟩
      exact tail 0 (by rw [nxN, if_neg (by omega)]) _ (hFx _) (hrx 0)
    · refine br_f (by (first | omega | ((simp (disch := omega) only [li0, li1, li2, li3, li4, li5, li9, li11, li40, li100, li200, li8000, li10000, lt_nI, le_nI, eq_nI]); done) | ((simp (disch := omega) only [li0, li1, li2, li3, li4, li5, li9, li11, li40, li100, li200, li8000, li10000, lt_nI, le_nI, eq_nI]); omega))) ?_
      refine ⟨vp_in_nI (by omega) (by omega), ?_⟩
      intro v33 hv33
      have e9 : v33 = nI (fl.getD (k + 1) 0) := by
        rw [hv33, cl_nI (by omega), p2n rfl, hF.2 9 (by decide)]
        exact hf _ (by omega)
      subst e9
      refine ⟨vp_in_nI (n := 1) (by omega) (by omega), ?_⟩
      exact tail _ (by rw [nxN, if_pos (by omega)]) _ (hFx _) (hrx _)
theorem m_writeKeys {bl wd mm fn : Nat} {SM : Nat → gS → Prop} {key : Nat → Int32} {Agr : (Nat → Nat → Int32) → Prop} {count : Nat} {x2 : Int32}
    (hstep : ∀ (Dc : Nat → Nat → Int32) (t : gS) (j : Nat) (Q1 : Int32 → gS → Prop), BM t bl wd mm fn Dc → Agr Dc → SM j t → j < count → (∀ t', Fr [10] [1, 10, 11, 12] t t' → SM (j + 1) t' → Q1 (key j) t') → ((x2 = 0 → wp_M_SpillQueueModel_takeFromRuns t Q1) ∧ (¬ x2 = 0 → wp_M_SpillQueueModel_takeFromMemory t Q1)))
    (hfr : ∀ (t t' : gS) (j : Nat), Fr [6, 7, 9] [0, 8] t t' → SM j t → SM j t')
    {D0 : Nat → Nat → Int32} {fl : List Nat} {cut : Nat} {wr : Int32} {t0 : gS} (hB : BM t0 bl wd mm fn D0) (hcb : count < 2 ^ 20) (hnl : needN wd count ≤ fl.length) (hfl : fl.length ≤ 200) (hfm : ∀ x, x ∈ fl → x < bl) (hf : ∀ i, i < needN wd count → t0.2 9 i = nI (fl.getD i 0)) (hcut : cut ≤ 10000)
    (h7 : t0.1 7 = nI cut) (h6 : t0.1 6 = wr) (h9 : t0.1 9 = 0) (hS : SM 0 t0)
    (hA : ∀ k, k ≤ needN wd count → Agr (Dw wd fl (needN wd count) count key D0 k)) {Q : gS → Prop}
    (hEnd : ¬ (1 ≤ cut ∧ cut ≤ needN wd count) → ∀ t, Fr [6, 7, 9, 10] [0, 1, 8, 10, 11, 12] t0 t → BM t bl wd mm fn (Dw wd fl (needN wd count) count key D0 (needN wd count)) → t.1 7 = nI (cut - needN wd count) → t.1 6 = wr + nI (needN wd count) → t.1 9 = 0 → SM count t → Q t)
    (hCut : 1 ≤ cut ∧ cut ≤ needN wd count → ∀ t, Fr [6, 7, 9, 10] [0, 1, 8, 10, 11, 12] t0 t → BM t bl wd mm fn (Dw wd fl (needN wd count) count key D0 (cut - 1)) → t.1 6 = wr + nI (cut - 1) → t.1 9 = 1 → Q t) : wp_M_SpillQueueModel_writeKeys (nI count) x2 t0 Q := by
  have hz := hB.2.2.2.2.1
  unfold wp_M_SpillQueueModel_writeKeys
  refine m_blocksOf (a := 0) hB (by omega) ?_
  rw [Nat.zero_add]
  refine ⟨needN wd count + 1, ?_⟩
  have := m_blocks (x1 := nI count) hstep hfr hz rfl hcb hnl hfl hfm hf hcut hA hEnd hCut (needN wd count) 0 t0 (by omega) (Fr_refl _ _ _) hB h7 (by omega) (by rw [h6, show nI 0 = 0 from rfl, Int32.add_zero]) h9 (by rw [Nat.zero_mul, Nat.zero_min]; exact hS)
  rw [Nat.zero_mul, Nat.zero_min] at this
  exact this
theorem m_addRun {t : gS} {rs : List ARun} (hR : RM t rs.length (getF rs)) (hn : rs.length < 9) {bs : List Nat} {c : Nat} {lv : Int32} {Q : gS → Prop} (h : ∀ t', Fr [12] [2, 3, 4, 5] t t' → RM t' (rs ++ [(bs, 0, c, lv)]).length (getF (rs ++ [(bs, 0, c, lv)])) → Q t') : wp_M_SpillQueueModel_addRun (nI (bs.headD 0)) (nI c) lv t Q := by
  unfold wp_M_SpillQueueModel_addRun
  rw [hR.1, cl_nI (by omega), nI_1]
  refine ⟨vp_in_nI (by omega) (by omega), ?_⟩
  refine ⟨vp_in_nI (by omega) (by omega), ?_⟩
  refine ⟨vp_in_nI (by omega) (by omega), ?_⟩
  refine ⟨vp_in_nI (by omega) (by omega), ?_⟩
  (intro v hv; subst hv)
  refine h _ (Fr_a (s' := (_, ua (ua (ua _ 2 _) 3 _) 4 _)) (Fr_a (s' := (_, ua (ua _ 2 _) 3 _)) (Fr_a (s' := (_, ua _ 2 _)) (Fr_a (s' := (up t.1 12 _, t.2)) (Fr_u (Fr_refl _ _ _) (by decide)) (by decide)) (by decide)) (by decide)) (by decide)) ⟨?_, ?_, ?_⟩
  · show up t.1 12 (nI (rs.length + 1)) 12 = _
    rw [up_s]; simp
  · simp; omega
  · intro j hj
    have hj : j < rs.length + 1 := by simpa using hj
    by_cases cj : j = rs.length
    · subst cj
      rw [getF_eq]
      refine ⟨?_, ?_, ?_, ?_⟩
      · simp [ua_i, upd_s]
      · simp only [ua_i, Nat.reduceEqDiff, if_true, if_false, reduceIte, upd_s]; rfl
      · simp [ua_i, upd_s]
      · simp [ua_i, upd_s]
    · rw [getF_lt (by omega)]
      have := hR.2.2 j (by omega)
      simp only [ua_i, Nat.reduceEqDiff, if_true, if_false, reduceIte, upd_n cj]
      exact this
theorem m_runsOf {t : gS} {n : Nat} {cs : Nat → ARun} (hR : RM t n cs) {lv : Int32} {Q : Int32 → gS → Prop} (h : Q (nI (cntL lv cs n)) t) : wp_M_SpillQueueModel_runsOf lv t Q := by
  have h9 := hR.2.1
  have key : ∀ (m i : Nat), i + m = n → wl_M_SpillQueueModel_runsOf_4 Q (fun v9 v10 s8 => Q v9 s8) lv (m + 1) (nI (cntL lv cs i)) (nI i) t := by
    intro m
    induction m with
    | zero =>
      intro i hi
      have : i = n := by omega
      subst this
      exact br_t (by rw [hR.1]; (first | omega | ((simp (disch := omega) only [li0, li1, li2, li3, li4, li5, li9, li11, li40, li100, li200, li8000, li10000, lt_nI, le_nI, eq_nI]); done) | ((simp (disch := omega) only [li0, li1, li2, li3, li4, li5, li9, li11, li40, li100, li200, li8000, li10000, lt_nI, le_nI, eq_nI]); omega))) h
    | succ m ih =>
      intro i hi
      have hr := hR.2.2 i (by omega)
      have ih1 := ih (i + 1) (by omega)
      unfold cntL at ih1
      rw [wl_M_SpillQueueModel_runsOf_4, hR.1]
      refine br_f (by (first | omega | ((simp (disch := omega) only [li0, li1, li2, li3, li4, li5, li9, li11, li40, li100, li200, li8000, li10000, lt_nI, le_nI, eq_nI]); done) | ((simp (disch := omega) only [li0, li1, li2, li3, li4, li5, li9, li11, li40, li100, li200, li8000, li10000, lt_nI, le_nI, eq_nI]); omega))) ?_
      refine ⟨vp_in_nI (by omega) (by omega), ?_⟩
      rw [cl_nI (by omega), hr.2.2.2]
      by_cases e : (cs i).2.2.2 = lv
      · refine br_nf e ?_
        (intro v hv; subst hv)
        (intro v hv; subst hv)
        rw [if_pos e] at ih1
        rw [nI_1, nI_1]
        exact ih1
      · refine br_nt e ?_
        (intro v hv; subst hv)
        rw [if_neg e] at ih1
        rw [nI_1]
        exact ih1
  exact ⟨n + 1, key n 0 (by omega)⟩
theorem m_crowded {t : gS} {n fn : Nat} {cs : Nat → ARun} (hR : RM t n cs) (h5 : t.1 5 = nI fn) (hfn : fn ≤ 5) {Q : Int32 → gS → Prop} (h : Q (oI (crow fn cs n)) t) : wp_M_SpillQueueModel_crowded t Q := by
  have h9 := hR.2.1
  have key : ∀ (m i : Nat), i + m = n → wl_M_SpillQueueModel_crowded_4 Q (fun v16 v17 s15 => Q v16 s15) (m + 1) (oI (pick (elW fn cs n) (fun i => (cs i).2.2.2) i)) (nI i) t := by
    intro m
    induction m with
    | zero =>
      intro i hi
      have : i = n := by omega
      subst this
      exact br_t (by rw [hR.1]; (first | omega | ((simp (disch := omega) only [li0, li1, li2, li3, li4, li5, li9, li11, li40, li100, li200, li8000, li10000, lt_nI, le_nI, eq_nI]); done) | ((simp (disch := omega) only [li0, li1, li2, li3, li4, li5, li9, li11, li40, li100, li200, li8000, li10000, lt_nI, le_nI, eq_nI]); omega))) h
    | succ m ih =>
      intro i hi
      have hr := hR.2.2 i (by omega)
      have ih1 := ih (i + 1) (by omega)
      have hcl := cntL_le (cs i).2.2.2 cs n
      rw [wl_M_SpillQueueModel_crowded_4, hR.1]
      refine br_f (by (first | omega | ((simp (disch := omega) only [li0, li1, li2, li3, li4, li5, li9, li11, li40, li100, li200, li8000, li10000, lt_nI, le_nI, eq_nI]); done) | ((simp (disch := omega) only [li0, li1, li2, li3, li4, li5, li9, li11, li40, li100, li200, li8000, li10000, lt_nI, le_nI, eq_nI]); omega))) ?_
      refine ⟨vp_in_nI (by omega) (by omega), ?_⟩
      rw [cl_nI (by omega), hr.2.2.2]
      refine m_runsOf hR ?_
      rw [h5]
      by_cases e : fn ≤ cntL (cs i).2.2.2 cs n
      · have he : elW fn cs n i = true := by simp [elW, e]
        refine br_f (by (first | omega | ((simp (disch := omega) only [li0, li1, li2, li3, li4, li5, li9, li11, li40, li100, li200, li8000, li10000, lt_nI, le_nI, eq_nI]); done) | ((simp (disch := omega) only [li0, li1, li2, li3, li4, li5, li9, li11, li40, li100, li200, li8000, li10000, lt_nI, le_nI, eq_nI]); omega))) ?_
        cases hp : pick (elW fn cs n) (fun i => (cs i).2.2.2) i with
        | none =>
          refine br_t oI_neg ?_
          (intro v hv; subst hv)
          rw [pick_new he hp] at ih1
          rw [nI_1]
          exact ih1
        | some j =>
          have hj := pick_lt hp
          refine br_f (oI_pos (by omega)) ?_
          refine ⟨vp_in_nI (by omega) (by omega), ?_⟩
          refine ⟨vp_in_nI (n := j) (by omega) (by omega), ?_⟩
          have ej : (oI (some j)).toNatClampNeg = j := cl_nI (by omega)
          rw [ej, hr.2.2.2, (hR.2.2 j (by omega)).2.2.2]
          refine ⟨fun q => ?_, fun q => ?_⟩
          · (intro v hv; subst hv)
            rw [nI_1]
            rw [pick_keep he hp q] at ih1
            exact ih1
          · (intro v hv; subst hv)
            rw [nI_1]
            rw [pick_swap he hp q] at ih1
            exact ih1
      · refine br_t (by (first | omega | ((simp (disch := omega) only [li0, li1, li2, li3, li4, li5, li9, li11, li40, li100, li200, li8000, li10000, lt_nI, le_nI, eq_nI]); done) | ((simp (disch := omega) only [li0, li1, li2, li3, li4, li5, li9, li11, li40, li100, li200, li8000, li10000, lt_nI, le_nI, eq_nI]); omega))) ?_
        (intro v hv; subst hv)
        rw [nI_1]
        rw [pick_skip (n := i) (by simp [elW]; omega)] at ih1
        exact ih1
  exact ⟨n + 1, key n 0 (by omega)⟩
theorem eraseF {rs : List ARun} {r i : Nat} : getF (rs.eraseIdx r) i = if i < r then getF rs i else getF rs (i + 1) := by
  unfold getF List.getD
  rw [List.getElem?_eraseIdx]
  split <;> rfl
theorem m_dropRun {t : gS} {rs : List ARun} (hR : RM t rs.length (getF rs)) {r : Nat} (hr : r < rs.length) {Q : gS → Prop} (h : ∀ t', Fr [12] [2, 3, 4, 5] t t' → RM t' (rs.eraseIdx r).length (getF (rs.eraseIdx r)) → Q t') : wp_M_SpillQueueModel_dropRun (nI r) t Q := by
  have h9 := hR.2.1
  have hl : (rs.eraseIdx r).length = rs.length - 1 := by rw [List.length_eraseIdx]; simp [hr]
  unfold wp_M_SpillQueueModel_dropRun
  rw [hR.1, li1, pk_sub (by omega)]
  (intro v hv; subst hv)
  have key : ∀ (m k : Nat) (tk : gS), k + m = rs.length - 1 → r ≤ k → Fr [12] [2, 3, 4, 5] t tk → tk.1 12 = nI (rs.length - 1) → (∀ i, i < rs.length → tk.2 2 i = nI ((getF rs (if r ≤ i ∧ i < k then i + 1 else i)).1.headD 0) ∧ tk.2 3 i = nI (getF rs (if r ≤ i ∧ i < k then i + 1 else i)).2.1 ∧ tk.2 4 i = nI (getF rs (if r ≤ i ∧ i < k then i + 1 else i)).2.2.1 ∧ tk.2 5 i = (getF rs (if r ≤ i ∧ i < k then i + 1 else i)).2.2.2) → wl_M_SpillQueueModel_dropRun_12 Q (fun v18 s17 => Q s17) (nI r) (m + 1) (nI k) tk := by
    intro m
    induction m with
    | zero =>
      intro k tk hk hrk hF h12 ha
      refine br_t (by rw [h12]; (first | omega | ((simp (disch := omega) only [li0, li1, li2, li3, li4, li5, li9, li11, li40, li100, li200, li8000, li10000, lt_nI, le_nI, eq_nI]); done) | ((simp (disch := omega) only [li0, li1, li2, li3, li4, li5, li9, li11, li40, li100, li200, li8000, li10000, lt_nI, le_nI, eq_nI]); omega))) (h tk hF ⟨by rw [hl]; exact h12, by omega, fun i hi => ?_⟩)
      rw [hl] at hi
      have := ha i (by omega)
      rw [eraseF]
      by_cases c : i < r
      · rw [if_neg (by omega)] at this; rw [if_pos c]; exact this
      · rw [if_pos (by omega)] at this; rw [if_neg c]; exact this
    | succ m ih =>
      intro k tk hk hrk hF h12 ha
      have ha1 := ha (k + 1) (by omega)
      rw [if_neg (by omega)] at ha1
      refine br_f (by rw [h12]; (first | omega | ((simp (disch := omega) only [li0, li1, li2, li3, li4, li5, li9, li11, li40, li100, li200, li8000, li10000, lt_nI, le_nI, eq_nI]); done) | ((simp (disch := omega) only [li0, li1, li2, li3, li4, li5, li9, li11, li40, li100, li200, li8000, li10000, lt_nI, le_nI, eq_nI]); omega))) ?_
      rw [nI_1, cl_nI (by omega), cl_nI (by omega), ha1.1, ha1.2.1, ha1.2.2.1, ha1.2.2.2]
      refine ⟨vp_in_nI (by omega) (by omega), ?_⟩
      (intro v hv; subst hv)
      refine ⟨vp_in_nI (by omega) (by omega), ?_⟩
      refine ⟨vp_in_nI (by omega) (by omega), ?_⟩
      (intro v hv; subst hv)
      refine ⟨vp_in_nI (by omega) (by omega), ?_⟩
      refine ⟨vp_in_nI (by omega) (by omega), ?_⟩
      (intro v hv; subst hv)
      refine ⟨vp_in_nI (by omega) (by omega), ?_⟩
      refine ⟨vp_in_nI (by omega) (by omega), ?_⟩
      (intro v hv; subst hv)
      refine ⟨vp_in_nI (by omega) (by omega), ?_⟩
      (intro v hv; subst hv)
      refine ih (k + 1) _ (by omega) (by omega) (Fr_a (s' := (_, ua (ua (ua _ 2 _) 3 _) 4 _)) (Fr_a (s' := (_, ua (ua _ 2 _) 3 _)) (Fr_a (s' := (_, ua _ 2 _)) (Fr_a hF (by decide)) (by decide)) (by decide)) (by decide)) h12 (fun i hi => ?_)
      by_cases c : i = k
      · subst c
        rw [if_pos (by omega)]
        simp only [ua_i, Nat.reduceEqDiff, if_true, if_false, reduceIte, upd_s, and_self]
      · have := ha i hi
        have e : (if r ≤ i ∧ i < k + 1 then i + 1 else i) = (if r ≤ i ∧ i < k then i + 1 else i) := by
          by_cases c2 : r ≤ i ∧ i < k
          · rw [if_pos c2, if_pos (by omega)]
          · rw [if_neg c2, if_neg (by omega)]
        rw [e]
        simp only [ua_i, Nat.reduceEqDiff, if_true, if_false, reduceIte, upd_n c]
        exact this
  refine ⟨rs.length - 1 - r + 1, key (rs.length - 1 - r) r _ (by omega) (Nat.le_refl _) (Fr_u (Fr_refl _ _ _) (by decide)) (by show up t.1 12 (nI (rs.length - 1)) 12 = _; rw [up_s]) (fun i hi => ?_)⟩
  rw [if_neg (by omega)]
  exact hR.2.2 i hi
