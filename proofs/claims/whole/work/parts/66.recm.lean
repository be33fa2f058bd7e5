/-! Recovery: the reference. -/
theorem m_rising {t : gS} {bl wd mm fn : Nat} {D : Nat → Nat → Int32} (hB : BM t bl wd mm fn D) {b : Nat} (hb : b < bl) {Q : Int32 → gS → Prop} {K : Int32 → Int32 → Int32 → gS → Prop} {to : Nat} (hto : to ≤ wd - 2) {x1 x2 x3 x5 x6 : Int32} : ∀ (m pl rest : Nat) (last : Int32), pl + m = to → m ≤ rest → (to = wd - 2 ∨ rest = m) → rest < 2 ^ 31 → (rise D b m pl last = none → Q 0 t) → (∀ v, rise D b m pl last = some v → K (nI to) v (nI (rest - m)) t) → wl_M_SpillQueueModel_readRun_184 Q K x1 x2 x3 (nI b) x5 x6 (m + 1) (nI pl) last (nI rest) t := by
  have hz := hB.2.2.2.2.1
  intro m
  induction m with
  | zero =>
    intro pl rest last hp hr hor hrb h0 h1
    have : pl = to := by omega
    subst this
    have fin := h1 last rfl
    rw [Nat.sub_zero] at fin
    refine m_room hB ?_
    by_cases c : pl = wd - 2
    · exact br_t (by (first | omega | ((simp (disch := omega) only [li0, li1, li2, li3, li4, li5, li9, li11, li40, li100, li200, li8000, li10000, lt_nI, le_nI, eq_nI]); done) | ((simp (disch := omega) only [li0, li1, li2, li3, li4, li5, li9, li11, li40, li100, li200, li8000, li10000, lt_nI, le_nI, eq_nI]); omega))) fin
    · exact br_f (by (first | omega | ((simp (disch := omega) only [li0, li1, li2, li3, li4, li5, li9, li11, li40, li100, li200, li8000, li10000, lt_nI, le_nI, eq_nI]); done) | ((simp (disch := omega) only [li0, li1, li2, li3, li4, li5, li9, li11, li40, li100, li200, li8000, li10000, lt_nI, le_nI, eq_nI]); omega))) (br_t (by (first | omega | ((simp (disch := omega) only [li0, li1, li2, li3, li4, li5, li9, li11, li40, li100, li200, li8000, li10000, lt_nI, le_nI, eq_nI]); done) | ((simp (disch := omega) only [li0, li1, li2, li3, li4, li5, li9, li11, li40, li100, li200, li8000, li10000, lt_nI, le_nI, eq_nI]); omega))) fin)
  | succ m ih =>
    intro pl rest last hp hr hor hrb h0 h1
    refine m_room hB ?_
    refine br_f (by (first | omega | ((simp (disch := omega) only [li0, li1, li2, li3, li4, li5, li9, li11, li40, li100, li200, li8000, li10000, lt_nI, le_nI, eq_nI]); done) | ((simp (disch := omega) only [li0, li1, li2, li3, li4, li5, li9, li11, li40, li100, li200, li8000, li10000, lt_nI, le_nI, eq_nI]); omega))) (br_f (by (first | omega | ((simp (disch := omega) only [li0, li1, li2, li3, li4, li5, li9, li11, li40, li100, li200, li8000, li10000, lt_nI, le_nI, eq_nI]); done) | ((simp (disch := omega) only [li0, li1, li2, li3, li4, li5, li9, li11, li40, li100, li200, li8000, li10000, lt_nI, le_nI, eq_nI]); omega))) ?_)
    rw [li2, nI_add]
    refine m_at hB hb (by omega) ?_
    unfold rise at h0 h1
    by_cases c : last ≤ D b (2 + pl)
    · rw [if_pos c] at h0 h1
      refine br_t c (m_at hB hb (by omega) ?_)
      rw [nI_1, dec1 (by omega)]
      (intro v hv; subst hv)
      (intro v hv; subst hv)
      refine ih (pl + 1) (rest - 1) _ (by omega) (by omega) (by omega) (by omega) h0 (fun v hv => ?_)
      rw [show rest - 1 - m = rest - (m + 1) by omega]
      exact h1 v hv
    · rw [if_neg c] at h0
      exact br_f c (h0 rfl)
theorem m_chain {t0 : gS} {bl wd mm fn : Nat} {D : Nat → Nat → Int32} (hB0 : BM t0 bl wd mm fn D) {e begin cnt : Nat} (hec : e = begin + cnt) (hcnt : 1 ≤ cnt ∧ cnt < 2 ^ 31) (hbeg : begin < wd - 2) {Q : Int32 → gS → Prop} {x1 x2 x3 x5 x6 : Int32} : ∀ (fu n pl : Nat) (t : gS) (b last : Int32) (seen : Nat → Bool), e - n * (wd - 2) < fu → pl = (if n = 0 then begin else 0) → Fr [] [7] t0 t → SetH (t.2 7) seen → (chk bl wd D e fu n pl b last seen = none → ∀ t', Fr [12] [7] t0 t' → Q 0 t') → (∀ l sn, chk bl wd D e fu n pl b last seen = some (l, sn) → ∀ t', Fr [] [7] t0 t' → SetH (t'.2 7) sn → Q 1 (up t'.1 12 (t'.1 12 + 1), t'.2)) → wl_M_SpillQueueModel_readRun_128 Q (fun v53 v54 v55 v56 s52 => ∀ v57 : Int32, v57 = (s52.1 12) + 1 → ((¬ v53 = 0 → Q 0 (up s52.1 12 (v57), s52.2)) ∧ (v53 = 0 → Q 1 (up s52.1 12 (v57), s52.2)))) x1 x2 x3 x5 x6 fu b (nI pl) last (nI (e - n * (wd - 2) - pl)) t := by
  have hz := hB0.2.2.2.2.1
  intro fu
  induction fu with
  | zero => intro n pl t b last seen hfu; omega
  | succ fu ih =>
    intro n pl t b last seen hfu hpl hF hS h0 h1
    have hB := BM_fr hB0 hF (by decide) (by decide)
    unfold chk at h0 h1
    by_cases c0 : e ≤ n * (wd - 2)
    · rw [if_pos c0] at h0 h1
      refine br_t (by rw [show e - n * (wd - 2) - pl = 0 by omega]; decide) ?_
      (intro v hv; subst hv)
      by_cases cb : b = 0
      · rw [if_pos cb] at h1
        exact br_nf cb (h1 _ _ rfl t hF hS)
      · rw [if_neg cb] at h0
        exact br_nt cb (h0 rfl _ (Fr_u (Fr_mono hF (by decide) (by decide)) (by decide)))
    · rw [if_neg c0] at h0 h1
      have hlt : n * (wd - 2) < e := by omega
      have hh := here_pos hlt (show 0 < wd - 2 by omega)
      have hnP : n ≠ 0 → wd - 2 ≤ n * (wd - 2) := fun q => Nat.le_mul_of_pos_left _ (by omega)
      have hph : pl < hereN (wd - 2) e n := by
        rw [hpl]
        by_cases cn : n = 0
        · rw [if_pos cn, cn]; unfold hereN; rw [Nat.zero_mul]; split <;> omega
        · rw [if_neg cn]; omega
      have hrest : 1 ≤ e - n * (wd - 2) - pl ∧ e - n * (wd - 2) - pl < 2 ^ 31 := by
        refine ⟨by omega, ?_⟩
        by_cases cn : n = 0
        · rw [if_pos cn] at hpl; rw [cn, Nat.zero_mul]; omega
        · have := hnP cn; omega
      have fFr : ∀ {t'}, Fr [] [7] t0 t' → Fr [12] [7] t0 t' := fun h => Fr_mono h (by decide) (by decide)
      refine br_f (by (first | omega | ((simp (disch := omega) only [li0, li1, li2, li3, li4, li5, li9, li11, li40, li100, li200, li8000, li10000, lt_nI, le_nI, eq_nI]); done) | ((simp (disch := omega) only [li0, li1, li2, li3, li4, li5, li9, li11, li40, li100, li200, li8000, li10000, lt_nI, le_nI, eq_nI]); omega))) ?_
      by_cases c1 : b < 2
      · rw [if_pos c1] at h0
        exact br_t c1 (h0 rfl t (fFr hF))
      rw [if_neg c1] at h0 h1
      refine br_f c1 ?_
      rw [hB.1]
      by_cases c2 : nI bl ≤ b
      · rw [if_pos c2] at h0
        exact br_t c2 (h0 rfl t (fFr hF))
      rw [if_neg c2] at h0 h1
      refine br_f c2 ?_
      have hb0 : ¬ b < 0 := fun q => c1 (Int32.lt_of_lt_of_le q (by decide))
      obtain ⟨bb, hbb, eb, -, ec, -⟩ := pk_mu hb0 c2 (by omega)
      rw [ec] at h0 h1
      subst eb
      refine ⟨vp_in_nI (by omega) (by omega), ?_⟩
      rw [cl_nI (by omega), hS bb (by omega)]
      cases c3 : seen bb with
      | true =>
        rw [if_pos c3] at h0
        exact br_nt (by decide) (h0 rfl t (fFr hF))
      | false =>
        rw [if_neg (by rw [c3]; decide)] at h0 h1
        refine br_nf rfl (m_at (i := 0) hB hbb (by omega) (m_sumOf hB hbb ?_))
        by_cases c4 : D bb 0 = sumN (D bb) wd
        · rw [if_neg (fun q => q c4)] at h0 h1
          refine br_t c4 ?_
          refine ⟨vp_in_nI (by omega) (by omega), ?_⟩
          rw [nb1]
          have hF2 : Fr [] [7] t0 (t.1, ua t.2 7 (upd (t.2 7) bb 1)) := Fr_a hF (by decide)
          have hS2 : SetH (((t.1, ua t.2 7 (upd (t.2 7) bb 1)) : gS).2 7) (sAdd seen bb) := by rw [p2s]; exact setH_add hS bb
          generalize hsx : ((t.1, ua t.2 7 (upd (t.2 7) bb 1)) : gS) = tx at *
          have hBx := BM_fr hB0 hF2 (by decide) (by decide)
          refine ⟨hereN (wd - 2) e n - pl + 1, m_rising hBx hbb (to := hereN (wd - 2) e n) (by omega) (hereN (wd - 2) e n - pl) pl (e - n * (wd - 2) - pl) last (by omega) (by omega) (by unfold hereN; split <;> omega) hrest.2 (fun hv => ?_) (fun v hv => ?_)⟩
          · rw [hv] at h0
            exact h0 rfl tx (fFr hF2)
          · rw [hv] at h0 h1
            simp only at h0 h1
            refine m_at (i := 1) hBx hbb (by omega) ?_
            have er : e - n * (wd - 2) - pl - (hereN (wd - 2) e n - pl) = e - (n + 1) * (wd - 2) - 0 := by
              rw [Nat.succ_mul]; unfold hereN; split <;> omega
            rw [er]
            refine ih (n + 1) 0 tx _ v (sAdd seen bb) (by rw [Nat.succ_mul]; omega) (by rw [if_neg (by omega)]) hF2 hS2 ?_ ?_
            · intro q
              rw [q] at h0
              exact h0 rfl
            · intro l sn q
              rw [q] at h1
              exact h1 _ _ rfl
        · rw [if_pos c4] at h0
          exact br_f c4 (h0 rfl t (fFr hF))
theorem m_readRun {t : gS} {bl wd mm fn : Nat} {D : Nat → Nat → Int32} (hB : BM t bl wd mm fn D) {sb k : Nat} (hsb : sb < bl) (hk : k < (wd - 3) / 4) {rs : List ARun} (hR : RM t rs.length (getF rs)) (hl : rs.length = k) {seen : Nat → Bool} (hS : SetH (t.2 7) seen) {Q : Int32 → gS → Prop} (h0 : rdRun bl wd D sb k seen = none → ∀ t', Fr [12] [2, 3, 4, 5, 7] t t' → Q 0 t') (h1 : ∀ r sn, rdRun bl wd D sb k seen = some (r, sn) → ∀ t', Fr [12] [2, 3, 4, 5, 7] t t' → RM t' (rs ++ [r]).length (getF (rs ++ [r])) → SetH (t'.2 7) sn → Q 1 t') : wp_M_SpillQueueModel_readRun (nI sb) (nI k) t Q := by
  have hz := hB.2.2.2.2.1
  have hw : 11 ≤ wd ∧ wd ≤ 40 := by omega
  unfold wp_M_SpillQueueModel_readRun
  intro v hv
  have ea : v = nI (3 + 4 * k) := by rw [hv, li4, pk_mul, li3, nI_add]
  subst ea
  rw [show nI (3 + 4 * k) + 1 = nI (3 + 4 * k + 1) from nI_1 _, show nI (3 + 4 * k) + 2 = nI (3 + 4 * k + 2) from nI_add _ 2, show nI (3 + 4 * k) + 3 = nI (3 + 4 * k + 3) from nI_add _ 3]
  refine m_at hB hsb (by omega) (m_at hB hsb (by omega) (m_at hB hsb (by omega) (m_at hB hsb (by omega) ?_)))
  by_cases c1 : D sb (3 + 4 * k + 3) < 0
  · unfold rdRun at h0
    rw [if_pos (Or.inl c1)] at h0
    exact br_t c1 (h0 rfl t (Fr_refl _ _ _))
  refine br_f c1 ?_
  by_cases c2 : D sb (3 + 4 * k + 2) < 1
  · unfold rdRun at h0
    rw [if_pos (Or.inr (Or.inl c2))] at h0
    exact br_t c2 (h0 rfl t (Fr_refl _ _ _))
  refine br_f c2 ?_
  by_cases c3 : D sb (3 + 4 * k + 1) < 0
  · unfold rdRun at h0
    rw [if_pos (Or.inr (Or.inr (Or.inl c3)))] at h0
    exact br_t c3 (h0 rfl t (Fr_refl _ _ _))
  refine br_f c3 (m_room hB ?_)
  by_cases c4 : nI (wd - 2) ≤ D sb (3 + 4 * k + 1)
  · unfold rdRun at h0
    rw [if_pos (Or.inr (Or.inr (Or.inr c4)))] at h0
    exact br_f (Int32.not_lt.mpr c4) (h0 rfl t (Fr_refl _ _ _))
  refine br_t (Int32.not_le.mp c4) ?_
  have hneg : ¬ (D sb (3 + 4 * k + 3) < 0 ∨ D sb (3 + 4 * k + 2) < 1 ∨ D sb (3 + 4 * k + 1) < 0 ∨ nI (wd - 2) ≤ D sb (3 + 4 * k + 1)) := fun q => by rcases q with q | q | q | q; exact c1 q; exact c2 q; exact c3 q; exact c4 q
  have hc0 : ¬ D sb (3 + 4 * k + 2) < 0 := fun q => c2 (Int32.lt_of_lt_of_le q (by decide))
  obtain ⟨e2, hl2⟩ := nI_ofI hc0
  obtain ⟨e1, hl1⟩ := nI_ofI c3
  have hc1 : 1 ≤ (D sb (3 + 4 * k + 2)).toNatClampNeg := by
    have c2 := c2
    rw [e2, li1, lt_nI hl2 (by omega)] at c2; omega
  have hf1 : (D sb (3 + 4 * k + 1)).toNatClampNeg < wd - 2 := by
    have c4 := c4
    rw [e1, le_nI (by omega) hl1] at c4; omega
  have hk9 : k < 9 := by omega
  have h12 : t.1 12 = nI k := by rw [hR.1, hl]
  rw [h12, cl_nI (by omega)]
  refine ⟨vp_in_nI (by omega) (by omega), ?_⟩
  refine ⟨vp_in_nI (by omega) (by omega), ?_⟩
  refine ⟨vp_in_nI (by omega) (by omega), ?_⟩
  have hF3 : ∀ f2 f3 f4, Fr [12] [2, 3, 4, 5, 7] t (t.1, ua (ua (ua t.2 2 f2) 3 f3) 4 f4) := fun f2 f3 f4 => Fr_a (s' := (_, ua (ua _ 2 _) 3 _)) (Fr_a (s' := (_, ua _ 2 _)) (Fr_a (Fr_refl _ _ _) (by decide)) (by decide)) (by decide)
  refine m_at (BM_fr hB (hF3 _ _ _) (by decide) (by decide)) hsb (by omega) ?_
  refine ⟨vp_in_nI (by omega) (by omega), ?_⟩
  generalize htx : ((((t.1, ua (ua (ua t.2 2 (upd (t.2 2) k (D sb (3 + 4 * k)))) 3 (upd (t.2 3) k (D sb (3 + 4 * k + 1)))) 4 (upd (t.2 4) k (D sb (3 + 4 * k + 2)))) : gS).1, ua ((t.1, ua (ua (ua t.2 2 (upd (t.2 2) k (D sb (3 + 4 * k)))) 3 (upd (t.2 3) k (D sb (3 + 4 * k + 1)))) 4 (upd (t.2 4) k (D sb (3 + 4 * k + 2)))) : gS).2 5 (upd (((t.1, ua (ua (ua t.2 2 (upd (t.2 2) k (D sb (3 + 4 * k)))) 3 (upd (t.2 3) k (D sb (3 + 4 * k + 1)))) 4 (upd (t.2 4) k (D sb (3 + 4 * k + 2)))) : gS).2 5) k (D sb (3 + 4 * k + 3)))) : gS) = tx
  have hFx : Fr [12] [2, 3, 4, 5, 7] t tx := by rw [← htx]; exact Fr_a (hF3 _ _ _) (by decide)
  have hBx := BM_fr hB hFx (by decide) (by decide)
  have hSx : SetH (tx.2 7) seen := by
    rw [← htx]
    simp only [ua_i, Nat.reduceEqDiff, if_false]
    exact hS
  have hx12 : tx.1 12 = nI k := by rw [← htx]; exact h12
  have hxo : ∀ j, j ≠ k → tx.2 2 j = t.2 2 j ∧ tx.2 3 j = t.2 3 j ∧ tx.2 4 j = t.2 4 j ∧ tx.2 5 j = t.2 5 j := by
    intro j hj
    rw [← htx]
    simp only [ua_i, Nat.reduceEqDiff, if_true, if_false, reduceIte, upd_n hj, and_self]
  have hxk : tx.2 2 k = D sb (3 + 4 * k) ∧ tx.2 3 k = D sb (3 + 4 * k + 1) ∧ tx.2 4 k = D sb (3 + 4 * k + 2) ∧ tx.2 5 k = D sb (3 + 4 * k + 3) := by
    rw [← htx]
    simp only [ua_i, Nat.reduceEqDiff, if_true, if_false, reduceIte, upd_s, and_self]
  refine ⟨(D sb (3 + 4 * k + 1)).toNatClampNeg + (D sb (3 + 4 * k + 2)).toNatClampNeg + 1, ?_⟩
  have hch := m_chain (Q := Q) (x1 := nI sb) (x2 := nI k) (x3 := nI (3 + 4 * k)) (x5 := D sb (3 + 4 * k + 1)) (x6 := D sb (3 + 4 * k + 2)) hBx (begin := (D sb (3 + 4 * k + 1)).toNatClampNeg) (cnt := (D sb (3 + 4 * k + 2)).toNatClampNeg) rfl ⟨hc1, hl2⟩ hf1 ((D sb (3 + 4 * k + 1)).toNatClampNeg + (D sb (3 + 4 * k + 2)).toNatClampNeg + 1) 0 (D sb (3 + 4 * k + 1)).toNatClampNeg tx (D sb (3 + 4 * k)) 0 seen (by omega) (by rw [if_pos rfl]) (Fr_refl _ _ _) hSx (fun q t' hF' => ?_) (fun l sn q t' hF' hS' => ?_)
  · rw [Nat.zero_mul, Nat.sub_zero, Nat.add_sub_cancel_left, ← e1, ← e2] at hch
    exact hch
  · refine h0 ?_ t' (Fr_trans hFx (Fr_mono hF' (by decide) (by decide)))
    unfold rdRun; rw [if_neg hneg, q]
  · have hrd : rdRun bl wd D sb k seen = some ((l, (D sb (3 + 4 * k + 1)).toNatClampNeg, (D sb (3 + 4 * k + 2)).toNatClampNeg, D sb (3 + 4 * k + 3)), sn) := by
      unfold rdRun; rw [if_neg hneg, q]
    obtain ⟨i1, i2, i3, i4, i5, i6, i7⟩ := rdRun_some hw (by omega) hrd
    refine h1 _ sn hrd _ (Fr_u (Fr_trans hFx (Fr_mono hF' (by decide) (by decide))) (by decide)) ⟨?_, ?_, ?_⟩ hS'
    · show up t'.1 12 (t'.1 12 + 1) 12 = _
      rw [up_s, hF'.1 12 (by decide), hx12, nI_1, List.length_append, List.length_singleton, hl]
    · rw [List.length_append, List.length_singleton]; omega
    · intro j hj
      rw [List.length_append, List.length_singleton] at hj
      show t'.2 2 j = _ ∧ t'.2 3 j = _ ∧ t'.2 4 j = _ ∧ t'.2 5 j = _
      rw [hF'.2 2 (by decide), hF'.2 3 (by decide), hF'.2 4 (by decide), hF'.2 5 (by decide)]
      by_cases cj : j = k
      · subst cj
        rw [← hl, getF_eq, hl, hxk.1, hxk.2.1, hxk.2.2.1, hxk.2.2.2]
        exact ⟨i3, e1, e2, rfl⟩
      · rw [getF_lt (by omega), (hxo j cj).1, (hxo j cj).2.1, (hxo j cj).2.2.1, (hxo j cj).2.2.2]
        exact hR.2.2 j (by omega)
theorem m_readSuper {t : gS} {bl wd mm fn : Nat} {D : Nat → Nat → Int32} (hB : BM t bl wd mm fn D) {sb : Nat} (hsb : sb < bl) {Q : Int32 → gS → Prop} (h0 : rdSuper bl wd D sb = none → ∀ t', Fr [12] [2, 3, 4, 5, 7] t t' → Q 0 t') (h1 : ∀ rs sn, rdSuper bl wd D sb = some (rs, sn) → ∀ t', Fr [12] [2, 3, 4, 5, 7] t t' → RM t' rs.length (getF rs) → SetH (t'.2 7) sn → Q 1 t') : wp_M_SpillQueueModel_readSuper (nI sb) t Q := by
  have hz := hB.2.2.2.2.1
  unfold wp_M_SpillQueueModel_readSuper
  generalize hK : (fun (v6 : Int32) (s5 : gS) => wp_M_SpillQueueModel_at (nI sb) 1 s5 (fun r8 s7 => wp_M_SpillQueueModel_at (nI sb) 2 s7 (fun r10 s9 => wp_M_SpillQueueModel_at (nI sb) 0 s9 (fun r12 s11 => wp_M_SpillQueueModel_sumOf (nI sb) s11 (fun r14 s13 => ((¬ r12 = r14 → Q 0 s13) ∧ (r12 = r14 → ((r8 < 1 → Q 0 s13) ∧ (¬ r8 < 1 → ((¬ (r8 - r8 / 2 * 2) = (nI sb) → Q 0 s13) ∧ ((r8 - r8 / 2 * 2) = (nI sb) → wp_M_SpillQueueModel_most s13 (fun r20 s19 => wp_M_SpillQueueModel_within r10 0 r20 s19 (fun r22 s21 => ((¬ r22 = 0 → ∃ n29 : Nat, wl_M_SpillQueueModel_readSuper_87 Q (fun v31 v32 s30 => narrow .boolean (.int v31) = .int v31 ∧ (Q v31 s30)) (nI sb) r8 r10 n29 1 0 s21) ∧ (r22 = 0 → Q 0 s21))))))))))))))) = K
  have fin : ∀ (a : Int32) (tx : gS), Fr [12] [2, 3, 4, 5, 7] t tx → tx.1 12 = 0 → SetH (tx.2 7) (fun _ => false) → K a tx := by
    intro a tx hF h12 hS
    rw [← hK]
    have hBx := BM_fr hB hF (by decide) (by decide)
    refine m_at (i := 1) hBx hsb (by omega) (m_at (i := 2) hBx hsb (by omega) (m_at (i := 0) hBx hsb (by omega) (m_sumOf hBx hsb ?_)))
    unfold rdSuper at h0 h1
    by_cases c0 : ¬ D sb 0 = sumN (D sb) wd
    · rw [if_neg (fun q => c0 q.1)] at h0
      exact br_nt c0 (h0 rfl tx hF)
    have c0 := Decidable.of_not_not c0
    refine br_nf c0 ?_
    by_cases c1 : D sb 1 < 1
    · rw [if_neg (fun q => q.2.1 c1)] at h0
      exact br_t c1 (h0 rfl tx hF)
    refine br_f c1 ?_
    rw [rem2 c1]
    have hp := pb_lt (D sb 1)
    by_cases c2 : ¬ pb (D sb 1) = sb
    · rw [if_neg (fun q => c2 q.2.2.1)] at h0
      exact br_nt (by rw [eq_nI (by omega) (by omega)]; exact c2) (h0 rfl tx hF)
    have c2 := Decidable.of_not_not c2
    refine br_nf (by rw [c2]) (m_most hBx (m_within ?_))
    by_cases c3 : ¬ (¬ D sb 2 < 0 ∧ ¬ nI ((wd - 3) / 4) < D sb 2)
    · rw [if_neg (fun q => c3 q.2.2.2)] at h0
      rw [decide_eq_false c3]
      exact br_nf rfl (h0 rfl tx hF)
    have c3 := Decidable.of_not_not c3
    rw [decide_eq_true c3]
    refine br_nt (by decide) ?_
    rw [if_pos ⟨c0, c1, c2, c3⟩] at h0 h1
    obtain ⟨e2, hl2⟩ := nI_ofI c3.1
    have c4' := Int32.not_lt.mp c3.2
    generalize (D sb 2).toNatClampNeg = N at *
    have hN : N ≤ (wd - 3) / 4 := by rw [e2, le_nI hl2 (by omega)] at c4'; exact c4'
    rw [e2]
    have key : ∀ (m i : Nat) (ti : gS) (x : List ARun × (Nat → Bool)), i + m = N → Fr [12] [2, 3, 4, 5, 7] t ti → rdN bl wd D sb i = some x → RM ti x.1.length (getF x.1) → SetH (ti.2 7) x.2 → wl_M_SpillQueueModel_readSuper_87 Q (fun v31 v32 s30 => narrow .boolean (.int v31) = .int v31 ∧ (Q v31 s30)) (nI sb) (D sb 1) (nI N) (m + 1) 1 (nI i) ti := by
      intro m
      induction m with
      | zero =>
        intro i ti x hi hF hx hR hS
        have : i = N := by omega
        subst this
        exact br_t (by (first | omega | ((simp (disch := omega) only [li0, li1, li2, li3, li4, li5, li9, li11, li40, li100, li200, li8000, li10000, lt_nI, le_nI, eq_nI]); done) | ((simp (disch := omega) only [li0, li1, li2, li3, li4, li5, li9, li11, li40, li100, li200, li8000, li10000, lt_nI, le_nI, eq_nI]); omega))) ⟨rfl, h1 x.1 x.2 hx ti hF hR hS⟩
      | succ m ih =>
        intro i ti x hi hF hx hR hS
        refine br_f (by (first | omega | ((simp (disch := omega) only [li0, li1, li2, li3, li4, li5, li9, li11, li40, li100, li200, li8000, li10000, lt_nI, le_nI, eq_nI]); done) | ((simp (disch := omega) only [li0, li1, li2, li3, li4, li5, li9, li11, li40, li100, li200, li8000, li10000, lt_nI, le_nI, eq_nI]); omega))) (br_f (by decide) ?_)
        have hxl := (rdN_some ⟨by omega, by omega⟩ (by omega) i x.1 x.2 hx).1
        refine m_readRun (BM_fr hB hF (by decide) (by decide)) hsb (by omega) hR hxl hS (fun q t' hF' => ?_) (fun r sn q t' hF' hR' hS' => ?_)
        · have : rdN bl wd D sb (i + 1) = none := by unfold rdN; rw [hx]; simp only; rw [q]
          have fin0 := h0 (rdN_mono this (by omega)) t' (Fr_trans hF hF')
          (intro v hv; subst hv)
          rw [nI_1]
          by_cases cN : N ≤ i + 1
          · exact br_t (by (first | omega | ((simp (disch := omega) only [li0, li1, li2, li3, li4, li5, li9, li11, li40, li100, li200, li8000, li10000, lt_nI, le_nI, eq_nI]); done) | ((simp (disch := omega) only [li0, li1, li2, li3, li4, li5, li9, li11, li40, li100, li200, li8000, li10000, lt_nI, le_nI, eq_nI]); omega))) ⟨rfl, fin0⟩
          · exact br_f (by (first | omega | ((simp (disch := omega) only [li0, li1, li2, li3, li4, li5, li9, li11, li40, li100, li200, li8000, li10000, lt_nI, le_nI, eq_nI]); done) | ((simp (disch := omega) only [li0, li1, li2, li3, li4, li5, li9, li11, li40, li100, li200, li8000, li10000, lt_nI, le_nI, eq_nI]); omega))) (br_t rfl ⟨rfl, fin0⟩)
        · have : rdN bl wd D sb (i + 1) = some (x.1 ++ [r], sn) := by
            rw [rdN, hx]; simp only; rw [q]
          (intro v hv; subst hv)
          rw [nI_1]
          exact ih (i + 1) t' _ (by omega) (Fr_trans hF hF') this hR' hS'
    exact ⟨N + 1, key N 0 tx ([], fun _ => false) (by omega) hF rfl ⟨h12, by simp, fun i hi => absurd hi (by simp)⟩ hS⟩
  have hF0 : Fr [12] [2, 3, 4, 5, 7] t (up t.1 12 0, t.2) := Fr_u (Fr_refl _ _ _) (by decide)
  have key : ∀ (m i : Nat) (f : Nat → Int32), i + m = 200 → (∀ j, j < i → f j = 0) → wl_M_SpillQueueModel_readSuper_7 Q K (nI sb) (m + 1) (nI i) (up t.1 12 0, ua t.2 7 f) := by
    intro m
    induction m with
    | zero =>
      intro i f hi hf
      refine br_t (by (first | omega | ((simp (disch := omega) only [li0, li1, li2, li3, li4, li5, li9, li11, li40, li100, li200, li8000, li10000, lt_nI, le_nI, eq_nI]); done) | ((simp (disch := omega) only [li0, li1, li2, li3, li4, li5, li9, li11, li40, li100, li200, li8000, li10000, lt_nI, le_nI, eq_nI]); omega))) (fin _ _ (Fr_a (s' := (up t.1 12 0, t.2)) hF0 (by decide)) (up_s t.1 12 0) ?_)
      rw [p2s]
      exact fun j hj => hf j (by omega)
    | succ m ih =>
      intro i f hi hf
      refine br_f (by (first | omega | ((simp (disch := omega) only [li0, li1, li2, li3, li4, li5, li9, li11, li40, li100, li200, li8000, li10000, lt_nI, le_nI, eq_nI]); done) | ((simp (disch := omega) only [li0, li1, li2, li3, li4, li5, li9, li11, li40, li100, li200, li8000, li10000, lt_nI, le_nI, eq_nI]); omega))) ?_
      refine ⟨vp_in_nI (by omega) (by omega), ?_⟩
      (intro v hv; subst hv)
      have := ih (i + 1) (upd f i 0) (by omega) (fun j hj => by
        by_cases e : j = i
        · rw [e, upd_s]
        · rw [upd_n e]; exact hf j (by omega))
      show wl_M_SpillQueueModel_readSuper_7 Q K (nI sb) (m + 1) (nI i + 1) (up t.1 12 0, ua (ua t.2 7 f) 7 (upd (ua t.2 7 f 7) (nI i).toNatClampNeg (vp_nar .boolean 0)))
      rw [ua_ua, ua_s, cl_nI (by omega), nb0, nI_1]
      exact this
  refine ⟨201, ?_⟩
  have := key 200 0 (t.2 7) rfl (fun j hj => absurd hj (by omega))
  rw [ua_id] at this
  exact this
