/-! The reference: merges and spills. -/
def LM (bl wd mm fn : Nat) (ep : Int32) (syn : Nat → Bool) (t : gS) (D : Nat → Nat → Int32) (wr : Int32) (cut : Nat) (km : List Int32) (rs : List ARun) : Prop := BM t bl wd mm fn D ∧ t.1 1 = 1 ∧ t.1 8 = 1 ∧ t.1 9 = 0 ∧ t.1 11 = ep ∧ t.1 6 = wr ∧ t.1 7 = nI cut ∧ MM t km ∧ RM t rs.length (getF rs) ∧ SetH (t.2 6) syn
def OM (bl wd mm fn : Nat) (t : gS) (D : Nat → Nat → Int32) (wr : Int32) : Prop := BM t bl wd mm fn D ∧ t.1 1 = 1 ∧ t.1 9 = 1 ∧ t.1 6 = wr
def DM (bl wd mm fn : Nat) (t : gS) (D : Nat → Nat → Int32) (wr : Int32) : Prop := BM t bl wd mm fn D ∧ t.1 1 = 1 ∧ t.1 8 = 0 ∧ t.1 9 = 0 ∧ t.1 6 = wr
def ResM (bl wd mm fn : Nat) (ep : Int32) (syn : Nat → Bool) (th : Int32) (R : Res) (b : Int32) (t : gS) : Prop := t.1 0 = th ∧ (R.1 = -2 → b = 0) ∧ (R.1 ≠ -2 → b = 1) ∧ (R.1 = -9 → OM bl wd mm fn t R.2.1 R.2.2.1) ∧ (R.1 ≠ -9 → LM bl wd mm fn ep syn t R.2.1 R.2.2.1 R.2.2.2.1 R.2.2.2.2.1 R.2.2.2.2.2)
theorem LM_fr {bl wd mm fn : Nat} {ep : Int32} {syn : Nat → Bool} {t t' : gS} {D : Nat → Nat → Int32} {wr : Int32} {cut : Nat} {km : List Int32} {rs : List ARun} (hL : LM bl wd mm fn ep syn t D wr cut km rs) (hF : Fr [0] [7, 8, 9, 10, 11, 12, 13] t t') : LM bl wd mm fn ep syn t' D wr cut km rs := by
  obtain ⟨hB, h1, h8, h9, h11, h6, h7, hM, hR, hsy⟩ := hL
  exact ⟨BM_fr hB hF (by decide) (by decide), (hF.1 _ (by decide)).trans h1, (hF.1 _ (by decide)).trans h8, (hF.1 _ (by decide)).trans h9, (hF.1 _ (by decide)).trans h11, (hF.1 _ (by decide)).trans h6, (hF.1 _ (by decide)).trans h7, MM_fr hM hF (by decide) (by decide), RM_fr hR hF (by decide) (by decide), by rw [hF.2 6 (by decide)]; exact hsy⟩
theorem n02 : ¬ ((0 : Int32) = -2) := by decide
theorem m_mergeSet {t : gS} {n : Nat} {cs : Nat → ARun} (hR : RM t n cs) (hcb : ∀ i, i < n → (cs i).2.2.1 < 8000) {x1 x2 x3 : Int32} {p : ARun → Bool} (hp1 : ¬ x1 = 0 → ∀ r, p r = true) (hp0 : x1 = 0 → ∀ r, p r = decide (r.2.2.2 = x2)) {Q : Int32 → gS → Prop} {K : Int32 → Int32 → gS → Prop} (h : ∀ t', Fr [] [10, 11, 12, 13] t t' → MC t' n (fun i => p (cs i)) cs → K (nI (sumC (fun i => p (cs i)) cs n)) (nI n) t') : wl_M_SpillQueueModel_merge_6 Q K x1 x2 x3 (n + 1) 0 0 t := by
  have h9 := hR.2.1
  have key : ∀ (m i : Nat) (ti : gS), i + m = n → Fr [] [10, 11, 12, 13] t ti → (∀ j, j < i → ti.2 13 j = bI (p (cs j)) ∧ ti.2 12 j = nI (cs j).2.2.1 ∧ ti.2 10 j = nI ((cs j).1.headD 0) ∧ ti.2 11 j = nI (cs j).2.1) → wl_M_SpillQueueModel_merge_6 Q K x1 x2 x3 (m + 1) (nI (sumC (fun i => p (cs i)) cs i)) (nI i) ti := by
    intro m
    induction m with
    | zero =>
      intro i ti hi hF ha
      have : i = n := by omega
      subst this
      refine br_t (by rw [hF.1 12 (by decide), hR.1]; (first | omega | ((simp (disch := omega) only [li0, li1, li2, li3, li4, li5, li9, li11, li40, li100, li200, li8000, li10000, lt_nI, le_nI, eq_nI]); done) | ((simp (disch := omega) only [li0, li1, li2, li3, li4, li5, li9, li11, li40, li100, li200, li8000, li10000, lt_nI, le_nI, eq_nI]); omega))) (h ti hF ⟨(hF.1 12 (by decide)).trans hR.1, h9, fun j hj => ?_⟩)
      exact ⟨(ha j hj).1, (ha j hj).2.1, hcb j hj, fun _ => (ha j hj).2.2⟩
    | succ m ih =>
      intro i ti hi hF ha
      have hr := hR.2.2 i (by omega)
      have nxt : ∀ v f10 f11 f12 : Int32, v = bI (p (cs i)) → f10 = nI ((cs i).1.headD 0) → f11 = nI (cs i).2.1 → f12 = nI (cs i).2.2.1 → wl_M_SpillQueueModel_merge_6 Q K x1 x2 x3 (m + 1) (nI (sumC (fun i => p (cs i)) cs (i + 1))) (nI (i + 1)) (ti.1, ua (ua (ua (ua ti.2 13 (upd (ti.2 13) i v)) 10 (upd (ti.2 10) i f10)) 11 (upd (ti.2 11) i f11)) 12 (upd (ti.2 12) i f12)) := by
        intro v f10 f11 f12 hv e10 e11 e12
        refine ih (i + 1) _ (by omega) (Fr_a (s' := (_, ua (ua (ua _ 13 _) 10 _) 11 _)) (Fr_a (s' := (_, ua (ua _ 13 _) 10 _)) (Fr_a (s' := (_, ua _ 13 _)) (Fr_a hF (by decide)) (by decide)) (by decide)) (by decide)) (fun j hj => ?_)
        by_cases c : j = i
        · subst c
          simp only [ua_i, Nat.reduceEqDiff, if_true, if_false, reduceIte, upd_s]
          exact ⟨hv, e12, e10, e11⟩
        · simp only [ua_i, Nat.reduceEqDiff, if_true, if_false, reduceIte, upd_n c]
          exact ha j (by omega)
      refine br_f (by rw [hF.1 12 (by decide), hR.1]; (first | omega | ((simp (disch := omega) only [li0, li1, li2, li3, li4, li5, li9, li11, li40, li100, li200, li8000, li10000, lt_nI, le_nI, eq_nI]); done) | ((simp (disch := omega) only [li0, li1, li2, li3, li4, li5, li9, li11, li40, li100, li200, li8000, li10000, lt_nI, le_nI, eq_nI]); omega))) ?_
      rw [nI_1, cl_nI (by omega), hF.2 2 (by decide), hF.2 3 (by decide), hF.2 4 (by decide), hF.2 5 (by decide), hr.1, hr.2.1, hr.2.2.1, hr.2.2.2, upd_s, upd_s, nb0, nb1]
      by_cases c1 : x1 = 0
      · refine br_nf c1 ?_
        refine ⟨vp_in_nI (by omega) (by omega), ?_⟩
        by_cases c2 : (cs i).2.2.2 = x2
        · have hpi : p (cs i) = true := by rw [hp0 c1]; simp [c2]
          refine br_nf c2 ?_
          refine ⟨vp_in_nI (by omega) (by omega), ?_⟩
          refine ⟨vp_in_nI (by omega) (by omega), ?_⟩
          (intro v hv; subst hv)
          refine ⟨vp_in_nI (by omega) (by omega), ?_⟩
          refine ⟨vp_in_nI (by omega) (by omega), ?_⟩
          (intro v hv; subst hv)
          refine ⟨vp_in_nI (by omega) (by omega), ?_⟩
          refine ⟨vp_in_nI (by omega) (by omega), ?_⟩
          (intro v hv; subst hv)
          refine ⟨vp_in_nI (by omega) (by omega), ?_⟩
          refine ⟨vp_in_nI (by omega) (by omega), ?_⟩
          refine br_f (by decide) ?_
          refine ⟨vp_in_nI (by omega) (by omega), ?_⟩
          (intro v hv; subst hv)
          (intro v hv; subst hv)
          have := nxt 1 _ _ _ (by rw [hpi]; rfl) rfl rfl rfl
          rw [sumC, if_pos hpi] at this
          rw [nI_add]
          exact this
        · have hpi : p (cs i) = false := by rw [hp0 c1]; simp [c2]
          refine br_nt c2 ?_
          refine ⟨vp_in_nI (by omega) (by omega), ?_⟩
          refine ⟨vp_in_nI (by omega) (by omega), ?_⟩
          (intro v hv; subst hv)
          refine ⟨vp_in_nI (by omega) (by omega), ?_⟩
          refine ⟨vp_in_nI (by omega) (by omega), ?_⟩
          (intro v hv; subst hv)
          refine ⟨vp_in_nI (by omega) (by omega), ?_⟩
          refine ⟨vp_in_nI (by omega) (by omega), ?_⟩
          (intro v hv; subst hv)
          refine ⟨vp_in_nI (by omega) (by omega), ?_⟩
          refine ⟨vp_in_nI (by omega) (by omega), ?_⟩
          refine br_t rfl ?_
          (intro v hv; subst hv)
          have := nxt 0 _ _ _ (by rw [hpi]; rfl) rfl rfl rfl
          rw [sumC, if_neg (by rw [hpi]; decide)] at this
          exact this
      · have hpi : p (cs i) = true := hp1 c1 _
        refine br_nt c1 ?_
        refine ⟨vp_in_nI (by omega) (by omega), ?_⟩
        refine ⟨vp_in_nI (by omega) (by omega), ?_⟩
        (intro v hv; subst hv)
        refine ⟨vp_in_nI (by omega) (by omega), ?_⟩
        refine ⟨vp_in_nI (by omega) (by omega), ?_⟩
        (intro v hv; subst hv)
        refine ⟨vp_in_nI (by omega) (by omega), ?_⟩
        refine ⟨vp_in_nI (by omega) (by omega), ?_⟩
        (intro v hv; subst hv)
        refine ⟨vp_in_nI (by omega) (by omega), ?_⟩
        refine ⟨vp_in_nI (by omega) (by omega), ?_⟩
        refine br_f (by decide) ?_
        refine ⟨vp_in_nI (by omega) (by omega), ?_⟩
        (intro v hv; subst hv)
        (intro v hv; subst hv)
        have := nxt 1 _ _ _ (by rw [hpi]; rfl) rfl rfl rfl
        rw [sumC, if_pos hpi] at this
        rw [nI_add]
        exact this
  exact key n 0 t (by omega) (Fr_refl _ _ _) (fun j hj => absurd hj (by omega))
def Lk (p : ARun → Bool) (rs : List ARun) (k : Nat) : List ARun := rs.take k ++ (rs.drop k).filter (fun r => !p r)
theorem Lk_succ {p : ARun → Bool} {rs : List ARun} {k : Nat} (hk : k < rs.length) : Lk p rs (k + 1) = rs.take k ++ getF rs k :: (rs.drop (k + 1)).filter (fun r => !p r) := by
  have e : rs.take (k + 1) = rs.take k ++ [getF rs k] := by
    rw [List.take_succ]
    have : rs[k]? = some (getF rs k) := by simp [getF, List.getD, hk]
    rw [this]; rfl
  unfold Lk
  rw [e, List.append_assoc]; rfl
theorem Lk_this {p : ARun → Bool} {rs : List ARun} {k : Nat} (hk : k < rs.length) : Lk p rs k = if p (getF rs k) then rs.take k ++ (rs.drop (k + 1)).filter (fun r => !p r) else rs.take k ++ getF rs k :: (rs.drop (k + 1)).filter (fun r => !p r) := by
  have e : rs.drop k = getF rs k :: rs.drop (k + 1) := by
    rw [List.drop_eq_getElem_cons hk]
    congr 1
    simp [getF, List.getD, hk]
  unfold Lk
  rw [e, List.filter_cons]
  cases p (getF rs k) <;> simp
theorem m_mergeDrop {rs : List ARun} {x1 x2 x3 x4 x5 : Int32} {p : ARun → Bool} (hp1 : ¬ x1 = 0 → ∀ r, p r = true) (hp0 : x1 = 0 → ∀ r, p r = decide (r.2.2.2 = x2)) {Q : Int32 → gS → Prop} {K : Int32 → gS → Prop} (t0 : gS) (h : ∀ t', Fr [12] [2, 3, 4, 5] t0 t' → RM t' (rs.filter (fun r => !p r)).length (getF (rs.filter (fun r => !p r))) → K (-1) t') : ∀ (k : Nat) (t : gS), k ≤ rs.length → Fr [12] [2, 3, 4, 5] t0 t → RM t (Lk p rs k).length (getF (Lk p rs k)) → wl_M_SpillQueueModel_merge_151 Q K x1 x2 x3 x4 x5 (k + 1) (nI k - 1) t := by
  intro k
  induction k with
  | zero =>
    intro t hk hF hR
    have e : Lk p rs 0 = rs.filter (fun r => !p r) := by simp [Lk]
    rw [e] at hR
    exact br_t (by decide) (h t hF hR)
  | succ k ih =>
    intro t hk hF hR
    have h9 := hR.2.1
    have hL1 := Lk_succ (p := p) (rs := rs) (k := k) (by omega)
    have hL0 := Lk_this (p := p) (rs := rs) (k := k) (by omega)
    have htl : (rs.take k).length = k := by rw [List.length_take]; omega
    have hkl : k < (Lk p rs (k + 1)).length := by rw [hL1, List.length_append, htl]; simp
    have em : nI k + Int32.ofInt (-1) = nI k - 1 := by rw [show Int32.ofInt (-1) = (-1 : Int32) from by decide, Int32.sub_eq_add_neg]
    rw [nI_pred]
    have dropIt : p (getF rs k) = true → wp_M_SpillQueueModel_dropRun (nI k) t (fun s67 => ∀ v69 : Int32, v69 = nI k + Int32.ofInt (-1) → wl_M_SpillQueueModel_merge_151 Q K x1 x2 x3 x4 x5 (k + 1) v69 s67) := by
      intro hpk
      refine m_dropRun hR hkl (fun t1 hF1 hR1 => ?_)
      (intro v hv; subst hv)
      rw [em]
      refine ih t1 (by omega) (Fr_trans hF hF1) ?_
      have e : (Lk p rs (k + 1)).eraseIdx k = Lk p rs k := by
        rw [hL0, if_pos hpk, hL1, List.eraseIdx_append_of_length_le (by omega), htl, Nat.sub_self]; rfl
      rw [e] at hR1
      exact hR1
    refine br_f (nI_pos (by omega)) ?_
    by_cases c1 : x1 = 0
    · refine br_nf c1 ?_
      refine ⟨vp_in_nI (by omega) (by omega), ?_⟩
      have e5 : t.2 5 (nI k).toNatClampNeg = (getF rs k).2.2.2 := by
        rw [cl_nI (by omega), (hR.2.2 k hkl).2.2.2, hL1]
        congr 3
        unfold getF List.getD
        rw [List.getElem?_append_right (by omega), htl, Nat.sub_self]; rfl
      rw [e5]
      by_cases c2 : (getF rs k).2.2.2 = x2
      · exact br_nf c2 (dropIt (by rw [hp0 c1]; simp [c2]))
      · refine br_nt c2 ?_
        (intro v hv; subst hv)
        rw [em]
        refine ih t (by omega) hF ?_
        have hpk : ¬ p (getF rs k) = true := by rw [hp0 c1]; simp [c2]
        rw [hL0, if_neg hpk, ← hL1]
        exact hR
    · exact br_nt c1 (dropIt (hp1 c1 _))
theorem m_merge {bl wd mm fn : Nat} {ep : Int32} {syn : Nat → Bool} {t : gS} {D : Nat → Nat → Int32} {wr : Int32} {cut : Nat} {km : List Int32} {rs : List ARun} (hL : LM bl wd mm fn ep syn t D wr cut km rs) (hok : ∀ r, r ∈ rs → RunOK bl wd D r) (hcut : cut ≤ 10000) {x1 x2 lv : Int32} {p : ARun → Bool} (hp1 : ¬ x1 = 0 → ∀ r, p r = true) (hp0 : x1 = 0 → ∀ r, p r = decide (r.2.2.2 = x2)) (hp : ∃ r, r ∈ rs ∧ p r = true) {Q : Int32 → gS → Prop} (h : ∀ b t', ResM bl wd mm fn ep syn (t.1 0) (aMerge bl wd syn D wr cut km rs p lv) b t' → Q b t') : wp_M_SpillQueueModel_merge x1 x2 lv t Q := by
  have hL0 := hL
  obtain ⟨hB, h1, h8, h9, h11, h6, h7, hM, hR, hsy⟩ := hL
  have hz := hB.2.2.2.2.1
  have hw : 11 ≤ wd ∧ wd ≤ 40 := by omega
  have hrs9 := hR.2.1
  have hokF : ∀ i, i < rs.length → RunOK bl wd D (getF rs i) := fun i hi => hok _ (getF_mem hi)
  have hcF : ∀ i, i < rs.length → (getF rs i).2.2.1 < 8000 := fun i hi => by have := runOK_cnt hw (hokF i hi); omega
  unfold wp_M_SpillQueueModel_merge
  refine ⟨rs.length + 1, m_mergeSet hR hcF hp1 hp0 (fun t1 hF1 hC1 => ?_)⟩
  have ech : (fun i => p (getF rs i)) = chF p rs := rfl
  rw [ech] at hC1 ⊢
  have hc1 := sumC_pos' hok hp
  have hcb : sumC (chF p rs) (getF rs) rs.length ≤ 8000 * rs.length := sumC_le hcF
  have hmI := fun j hj => mInv (ch := chF p rs) hw hokF j hj
  have hmP := fun j hj hj2 => mPick_some (hmI j hj) hj2
  unfold aMerge aMake at h
  generalize hcnt : sumC (chF p rs) (getF rs) rs.length = count at *
  generalize hkey : mKey wd D (chF p rs) rs.length (getF rs) = key at *
  have hL1 := LM_fr hL0 (Fr_mono hF1 (by decide) (by decide))
  have hsy1 := hL1.2.2.2.2.2.2.2.2.2
  refine m_choose (cs := getF rs) hL1.1 hL1.2.2.2.2.2.2.2.2.1 hokF hsy1 (by omega) (fun c1 t2 hF2 => ?_) (fun c1 t2 hF2 hch => ?_)
  · have c1 : (aFree bl syn rs).length < needN wd count := c1
    rw [if_pos c1] at h
    refine br_nf rfl ?_
    refine h 0 t2 ⟨?_, fun _ => rfl, fun q => absurd rfl q, fun q => absurd q n29, fun _ => LM_fr hL1 (Fr_mono hF2 (by decide) (by decide))⟩
    rw [hF2.1 0 (by decide), hF1.1 0 (by decide)]
  · have c1 : needN wd count ≤ (aFree bl syn rs).length := c1
    have hch : ∀ i, i < needN wd count → t2.2 9 i = nI ((aFree bl syn rs).getD i 0) := hch
    rw [if_neg (by omega)] at h
    have hL2 := LM_fr hL1 (Fr_mono hF2 (by decide) (by decide))
    have hC2 := MC_fr hC1 hF2 (by decide) (by decide)
    have hfl : (aFree bl syn rs).length ≤ 200 := by have := aFree_len bl syn rs; omega
    have hn1 := needN_pos hw hc1
    have hcl := count_lt hw c1 hfl
    have hagr : ∀ k, k ≤ needN wd count → ∀ i, i < rs.length → ∀ x, x ∈ (getF rs i).1 → ∀ q, D x q = Dw wd (aFree bl syn rs) (needN wd count) count key D k x q := fun k hk i hi x hx q => (Dw_out k (by omega) (aFree_out hi hx) q).symm
    have hfl9 : (rs.filter (fun r => !p r)).length < 9 := by
      obtain ⟨r, hr, hpr⟩ := hp
      have : (rs.filter (fun r => !p r)).length < rs.length := List.length_filter_lt_length_iff_exists.mpr ⟨r, hr, by simp [hpr]⟩
      omega
    refine br_nt (by decide) ?_
    have tail : ∀ t3, Fr [6, 7, 9, 10] [0, 1, 8, 10, 11, 12] t2 t3 → (∀ t', Fr [12] [2, 3, 4, 5] t3 t' → RM t' ((rs.filter (fun r => !p r)) ++ [((aFree bl syn rs).take (needN wd count), 0, count, lv)]).length (getF ((rs.filter (fun r => !p r)) ++ [((aFree bl syn rs).take (needN wd count), 0, count, lv)])) → Q 1 t') → vp_in 0 200 ∧ (∀ v63 : Int32, v63 = t3.2 9 (0 : Int32).toNatClampNeg → ∀ v64 : Int32, v64 = (t3.1 12) - 1 → ∃ n76 : Nat, wl_M_SpillQueueModel_merge_151 Q (fun v78 s77 => wp_M_SpillQueueModel_addRun v63 (nI count) lv s77 (fun s79 => Q 1 s79)) x1 x2 lv (nI count) v63 n76 v64 t3) := by
      intro t3 hF3 hQ
      refine ⟨vp_in_nI (n := 0) (by omega) (by omega), ?_⟩
      rw [sb_cl0, hF3.2 9 (by decide), hch 0 (by omega), hF3.1 12 (by decide), hL2.2.2.2.2.2.2.2.2.1.1]
      (intro v hv; subst hv)
      (intro v hv; subst hv)
      refine ⟨rs.length + 1, m_mergeDrop hp1 hp0 t3 (fun t4 hF4 hR4 => ?_) rs.length t3 (Nat.le_refl _) (Fr_refl _ _ _) ?_⟩
      · rw [← take_headD (l := aFree bl syn rs) (n := needN wd count) (by omega)]
        exact m_addRun hR4 hfl9 (fun t5 hF5 hR5 => hQ t5 (Fr_trans hF4 hF5) hR5)
      · have e : Lk p rs rs.length = rs := by simp [Lk]
        rw [e]
        exact RM_fr hL2.2.2.2.2.2.2.2.2.1 hF3 (by decide) (by decide)
    refine m_writeKeys (SM := fun j t => j ≤ count ∧ MC t rs.length (chF p rs) (mIt wd D (chF p rs) rs.length (getF rs) j) ∧ MM t km) (key := key) (Agr := fun Dc => ∀ i, i < rs.length → ∀ x, x ∈ (getF rs i).1 → ∀ q, D x q = Dc x q) (count := count) ?_ ?_ (D0 := D) (fl := aFree bl syn rs) (cut := cut) (wr := wr) (t0 := t2) hL2.1 (by omega) c1 hfl (fun x hx => (aFree_mem hx).2) hch hcut hL2.2.2.2.2.2.2.1 hL2.2.2.2.2.2.1 hL2.2.2.2.1 ⟨by omega, hC2, hL2.2.2.2.2.2.2.2.1⟩ hagr ?_ ?_
    · rintro Dc ta j Qa hBa hAa ⟨-, hS1, hS2⟩ hj hQ
      refine br_t rfl ?_
      have hI := hmI j (by omega)
      obtain ⟨i, e1, hi, h0, hci, e2, e3⟩ := hmP j (by omega) hj
      have hag : ∀ i, i < rs.length → ∀ x, x ∈ (mIt wd D (chF p rs) rs.length (getF rs) j i).1 → ∀ q, D x q = Dc x q := fun i hi x hx q => hAa i hi x (hI.2.2.1 i hi x hx) q
      have epk : pick (elM (chF p rs) (mIt wd D (chF p rs) rs.length (getF rs) j)) (fun i => aH Dc (mIt wd D (chF p rs) rs.length (getF rs) j i)) rs.length = some i := by
        rw [← e1]
        refine pick_congr (fun _ _ => rfl) (fun k hk hel => ?_)
        have hel0 : 0 < (mIt wd D (chF p rs) rs.length (getF rs) j k).2.2.1 := by
          simp only [elM, Bool.and_eq_true, decide_eq_true_eq] at hel; exact hel.1
        exact (aH_agree hw (hag k hk) (hI.2.1 k hk hel0)).symm
      refine m_takeRuns hBa hS1 (fun k hk h0k => runOK_agree (hag k hk) (hI.2.1 k hk h0k)) epk (fun tb hFb hCb => ?_)
      rw [← aH_agree hw (hag i hi) (hI.2.1 i hi h0), ← e3]
      rw [← e2] at hCb
      exact hQ tb (Fr_mono hFb (by decide) (by decide)) ⟨by omega, hCb, MM_fr hS2 hFb (by decide) (by decide)⟩
    · rintro ta tb j hF ⟨hS0, hS1, hS2⟩
      exact ⟨hS0, MC_fr hS1 hF (by decide) (by decide), MM_fr hS2 hF (by decide) (by decide)⟩
    · rintro c2 t3 hF3 hB3 h73 h63 h93 ⟨-, -, hM3⟩
      rw [if_neg c2] at h
      refine tail t3 hF3 (fun t4 hF4 hR4 => h 1 t4 ⟨?_, fun q => absurd q n02, fun _ => rfl, fun q => absurd q n09, fun _ => ⟨BM_fr hB3 hF4 (by decide) (by decide), ?_, ?_, ?_, ?_, ?_, ?_, MM_fr hM3 hF4 (by decide) (by decide), hR4, ?_⟩⟩)
      · rw [hF4.1 0 (by decide), hF3.1 0 (by decide), hF2.1 0 (by decide), hF1.1 0 (by decide)]
      · rw [hF4.1 1 (by decide), hF3.1 1 (by decide)]; exact hL2.2.1
      · rw [hF4.1 8 (by decide), hF3.1 8 (by decide)]; exact hL2.2.2.1
      · rw [hF4.1 9 (by decide)]; exact h93
      · rw [hF4.1 11 (by decide), hF3.1 11 (by decide)]; exact hL2.2.2.2.2.1
      · rw [hF4.1 6 (by decide)]; exact h63
      · rw [hF4.1 7 (by decide)]; exact h73
      · rw [hF4.2 6 (by decide), hF3.2 6 (by decide)]; exact hL2.2.2.2.2.2.2.2.2.2
    · intro c2 t3 hF3 hB3 h63 h93
      rw [if_pos c2] at h
      refine tail t3 hF3 (fun t4 hF4 hR4 => h 1 t4 ⟨?_, fun q => absurd q n92, fun _ => rfl, fun _ => ⟨BM_fr hB3 hF4 (by decide) (by decide), ?_, ?_, ?_⟩, fun q => absurd rfl q⟩)
      · rw [hF4.1 0 (by decide), hF3.1 0 (by decide), hF2.1 0 (by decide), hF1.1 0 (by decide)]
      · rw [hF4.1 1 (by decide), hF3.1 1 (by decide)]; exact hL2.2.1
      · rw [hF4.1 9 (by decide)]; exact h93
      · rw [hF4.1 6 (by decide)]; exact h63
