/-! The reference: blocks are chosen, keys taken, runs written. -/
theorem frs_prefix {p : Nat → Bool} {a b : Nat} (h : a ≤ b) : ∃ u, frs p b = frs p a ++ u := by
  induction b with
  | zero => have : a = 0 := by omega
            subst this; exact ⟨[], by simp⟩
  | succ b ih =>
    by_cases e : a = b + 1
    · subst e; exact ⟨[], by simp⟩
    · obtain ⟨u, hu⟩ := ih (by omega)
      rw [show frs p (b + 1) = if 2 ≤ b ∧ p b = false then frs p b ++ [b] else frs p b from rfl]
      split
      · exact ⟨u ++ [b], by rw [hu, List.append_assoc]⟩
      · exact ⟨u, hu⟩
theorem m_choose {t : gS} {bl wd mm fn : Nat} {D : Nat → Nat → Int32} (hB : BM t bl wd mm fn D) {n : Nat} {cs : Nat → ARun} (hR : RM t n cs) (hok : ∀ i, i < n → RunOK bl wd D (cs i)) {q : Nat → Bool} (hq : SetH (t.2 6) q) {count : Nat} (hc : count < 2 ^ 20) {Q : Int32 → gS → Prop} (h0 : (frs (fun j => q j || mkN cs n j) bl).length < needN wd count → ∀ t', Fr [] [7, 9] t t' → Q 0 t') (h1 : needN wd count ≤ (frs (fun j => q j || mkN cs n j) bl).length → ∀ t', Fr [] [7, 9] t t' → (∀ i, i < needN wd count → t'.2 9 i = nI ((frs (fun j => q j || mkN cs n j) bl).getD i 0)) → Q 1 t') : wp_M_SpillQueueModel_choose (nI count) t Q := by
  have hz := hB.2.2.2.2.1
  unfold wp_M_SpillQueueModel_choose
  refine m_blocksOf (a := 0) hB (by omega) ?_
  rw [Nat.zero_add]
  refine m_free hB hR hok hq (fun f hf => ?_)
  generalize hP : (fun j => q j || mkN cs n j) = P at *
  have hfl := frs_len P bl
  have hnb : needN wd count < 2 ^ 21 := Nat.lt_of_le_of_lt (Nat.div_le_self _ _) (by omega)
  have hF : Fr [] [7, 9] t (t.1, ua t.2 7 f) := Fr_a (Fr_refl _ _ _) (by decide)
  show ((nI (needN wd count) ≤ nI (frs P bl).length → ∃ n14 : Nat, wl_M_SpillQueueModel_choose_22 Q (fun v16 v17 s15 => Q 1 s15) (nI count) (nI (needN wd count)) n14 0 2 (t.1, ua t.2 7 f)) ∧ (¬ nI (needN wd count) ≤ nI (frs P bl).length → Q 0 (t.1, ua t.2 7 f)))
  by_cases c : needN wd count ≤ (frs P bl).length
  · refine br_t (by (first | omega | ((simp (disch := omega) only [li0, li1, li2, li3, li4, li5, li9, li11, li40, li100, li200, li8000, li10000, lt_nI, le_nI, eq_nI]); done) | ((simp (disch := omega) only [li0, li1, li2, li3, li4, li5, li9, li11, li40, li100, li200, li8000, li10000, lt_nI, le_nI, eq_nI]); omega))) ?_
    generalize hN : needN wd count = N at *
    have key : ∀ (m i : Nat) (g : Nat → Int32), i + m = bl → 2 ≤ i → (frs P i).length ≤ N → HoldN g (frs P i) → wl_M_SpillQueueModel_choose_22 Q (fun v16 v17 s15 => Q 1 s15) (nI count) (nI N) (m + 1) (nI (frs P i).length) (nI i) (t.1, ua (ua t.2 7 f) 9 g) := by
      have fin : ∀ (i : Nat) (g : Nat → Int32), i ≤ bl → (frs P i).length = N → HoldN g (frs P i) → Q 1 (t.1, ua (ua t.2 7 f) 9 g) := by
        intro i g hi hl hg
        refine h1 c _ (Fr_a (s' := (_, ua _ 7 _)) hF (by decide)) (fun j hj => ?_)
        rw [p2s, hg j (by omega)]
        obtain ⟨u, hu⟩ := frs_prefix (p := P) hi
        rw [hu]
        simp [List.getD, List.getElem?_append_left (show j < (frs P i).length by omega)]
      intro m
      induction m with
      | zero =>
        intro i g hi h2 hl hg
        have : i = bl := by omega
        subst this
        exact br_t (by (first | omega | ((simp (disch := omega) only [li0, li1, li2, li3, li4, li5, li9, li11, li40, li100, li200, li8000, li10000, lt_nI, le_nI, eq_nI]); done) | ((simp (disch := omega) only [li0, li1, li2, li3, li4, li5, li9, li11, li40, li100, li200, li8000, li10000, lt_nI, le_nI, eq_nI]); omega))) (fin i g (Nat.le_refl _) (by omega) hg)
      | succ m ih =>
        intro i g hi h2 hl hg
        by_cases cN : (frs P i).length = N
        · exact br_t (by (first | omega | ((simp (disch := omega) only [li0, li1, li2, li3, li4, li5, li9, li11, li40, li100, li200, li8000, li10000, lt_nI, le_nI, eq_nI]); done) | ((simp (disch := omega) only [li0, li1, li2, li3, li4, li5, li9, li11, li40, li100, li200, li8000, li10000, lt_nI, le_nI, eq_nI]); omega))) (fin i g (by omega) cN hg)
        · refine br_f (by (first | omega | ((simp (disch := omega) only [li0, li1, li2, li3, li4, li5, li9, li11, li40, li100, li200, li8000, li10000, lt_nI, le_nI, eq_nI]); done) | ((simp (disch := omega) only [li0, li1, li2, li3, li4, li5, li9, li11, li40, li100, li200, li8000, li10000, lt_nI, le_nI, eq_nI]); omega))) ?_
          refine m_isFree (p := mkN cs n) (q := q) (by rw [p2n rfl, ua_s]; exact hf) (by rw [p2n rfl, ua_n rfl]; exact hq) (by omega) ?_
          have hPi : (q i || mkN cs n i) = P i := by rw [← hP]
          rw [hPi]
          cases hpi : P i with
          | true =>
            refine br_t rfl ?_
            (intro v hv; subst hv)
            have e : frs P (i + 1) = frs P i := by rw [frs, if_neg (by simp [hpi])]
            have := ih (i + 1) g (by omega) (by omega) (by rw [e]; exact hl) (by rw [e]; exact hg)
            rw [e] at this
            rw [nI_1]
            exact this
          | false =>
            refine br_f (by decide) ?_
            have e : frs P (i + 1) = frs P i ++ [i] := by rw [frs, if_pos ⟨h2, hpi⟩]
            refine ⟨vp_in_nI (by omega) (by omega), ?_⟩
            (intro v hv; subst hv)
            (intro v hv; subst hv)
            have := ih (i + 1) (upd g (frs P i).length (nI i)) (by omega) (by omega) (by rw [e, List.length_append, List.length_singleton]; omega) (by rw [e]; exact holdN_snoc hg)
            rw [e, List.length_append, List.length_singleton] at this
            show wl_M_SpillQueueModel_choose_22 Q _ (nI count) (nI N) (m + 1) (nI (frs P i).length + 1) (nI i + 1) (t.1, ua (ua (ua t.2 7 f) 9 g) 9 (upd (ua (ua t.2 7 f) 9 g 9) (nI (frs P i).length).toNatClampNeg (nI i)))
            rw [ua_ua, ua_s, cl_nI (by omega), nI_1, nI_1]
            exact this
    obtain ⟨k, rfl⟩ : ∃ k, bl = k + 2 := ⟨bl - 2, by omega⟩
    refine ⟨k + 1, ?_⟩
    have := key k 2 (t.2 9) (by omega) (by omega) (by simp [frs]) (fun i hi => absurd hi (by simp [frs]))
    rw [show (t.2 9) = (ua t.2 7 f) 9 from (ua_n rfl).symm, ua_id] at this
    exact this
  · exact br_f (by (first | omega | ((simp (disch := omega) only [li0, li1, li2, li3, li4, li5, li9, li11, li40, li100, li200, li8000, li10000, lt_nI, le_nI, eq_nI]); done) | ((simp (disch := omega) only [li0, li1, li2, li3, li4, li5, li9, li11, li40, li100, li200, li8000, li10000, lt_nI, le_nI, eq_nI]); omega))) (h0 (by omega) _ hF)
/-! memory: the least, wherever it is -/
theorem swap_out (A B : List Int32) (y : Int32) : ∃ kt' : List Int32, kt'.length + 1 = (A ++ y :: B).length ∧ (y :: kt').Perm (A ++ y :: B) ∧ ∀ i, i < kt'.length → kt'.getD i 0 = if i = A.length then (A ++ y :: B).getD kt'.length 0 else (A ++ y :: B).getD i 0 := by
  rcases List.eq_nil_or_concat B with rfl | ⟨B', z, rfl⟩
  · refine ⟨A, by simp, List.perm_append_comm (l₁ := [y]) (l₂ := A), fun i hi => ?_⟩
    rw [if_neg (by omega)]
    simp [List.getD, List.getElem?_append_left hi]
  · rw [List.concat_eq_append]
    refine ⟨A ++ z :: B', by simp; omega, ?_, fun i hi => ?_⟩
    · have h1 : (A ++ y :: (B' ++ [z])).Perm (y :: (A ++ (B' ++ [z]))) := List.perm_middle
      have h2 : (A ++ z :: B').Perm (A ++ (B' ++ [z])) := List.Perm.append_left A (List.perm_append_comm (l₁ := [z]) (l₂ := B'))
      exact (List.Perm.cons y h2).trans h1.symm
    · by_cases e : i = A.length
      · rw [if_pos e, e]
        have : (A ++ z :: B').length = A.length + (B'.length + 1) := by simp
        simp [List.getD, List.getElem?_append_right]
      · rw [if_neg e]
        by_cases c : i < A.length
        · simp [List.getD, List.getElem?_append_left c]
        · obtain ⟨q, rfl⟩ : ∃ q, i = A.length + (q + 1) := ⟨i - A.length - 1, by omega⟩
          have hq : q < B'.length := by simp at hi; omega
          simp [List.getD, List.getElem?_append_right, List.getElem?_append_left hq]
def MM (t : gS) (km : List Int32) : Prop := ∃ kt : List Int32, kt.Perm km ∧ t.1 10 = nI kt.length ∧ Hold (t.2 1) kt
theorem MM_fr {t t' : gS} {km : List Int32} (h : MM t km) {X Y : List Nat} (hF : Fr X Y t t') (h0 : 10 ∉ X) (h1 : 1 ∉ Y) : MM t' km := by
  obtain ⟨kt, hp, h2, h3⟩ := h
  exact ⟨kt, hp, (hF.1 10 h0).trans h2, by rw [hF.2 1 h1]; exact h3⟩
theorem getD_mem {l : List Int32} {i : Nat} (h : i < l.length) : l.getD i 0 ∈ l := by rw [getD_lt h]; exact List.getElem_mem _
theorem m_takeMem {t : gS} {l : List Int32} {x : Int32} (hM : MM t (l ++ [x])) (hlen : l.length < 100) (hx : ∀ y, y ∈ l → x ≤ y) {Q : Int32 → gS → Prop} (h : ∀ t', Fr [10] [1] t t' → MM t' l → Q x t') : wp_M_SpillQueueModel_takeFromMemory t Q := by
  obtain ⟨kt, hp, h10, hH⟩ := hM
  have hl : kt.length = l.length + 1 := by rw [hp.length_eq]; simp
  have fin : ∀ j, pick (fun _ => true) (fun i => kt.getD i 0) kt.length = some j → vp_in (nI j) 100 ∧ (∀ v12 : Int32, v12 = t.2 1 (nI j).toNatClampNeg → ∀ v13 : Int32, v13 = (t.1 10) - 1 → vp_in v13 100 ∧ (∀ v15 : Int32, v15 = t.2 1 v13.toNatClampNeg → vp_in (nI j) 100 ∧ (Q v12 (up t.1 10 (v13), ua t.2 1 (upd (t.2 1) (nI j).toNatClampNeg v15))))) := by
    intro j hj
    have hj1 := (pick_lt hj).1
    have hle := pick_least hj
    refine ⟨vp_in_nI (by omega) (by omega), ?_⟩
    rw [cl_nI (by omega), hH j hj1, h10, li1, pk_sub (by omega)]
    (intro v hv; subst hv)
    (intro v hv; subst hv)
    refine ⟨vp_in_nI (by omega) (by omega), ?_⟩
    rw [cl_nI (by omega), hH _ (by omega)]
    (intro v hv; subst hv)
    refine ⟨vp_in_nI (by omega) (by omega), ?_⟩
    have hxk : x ∈ kt := hp.mem_iff.mpr (by simp)
    have hyk : kt.getD j 0 ∈ l ++ [x] := hp.mem_iff.mp (getD_mem hj1)
    have exy : kt.getD j 0 = x := by
      refine Int32.le_antisymm ?_ ?_
      · obtain ⟨i, hi, e⟩ := List.getElem_of_mem hxk
        have := hle i hi rfl
        rw [← e, ← getD_lt hi]
        exact this
      · rcases List.mem_append.mp hyk with q | q
        · exact hx _ q
        · rw [List.mem_singleton] at q; rw [q]; exact Int32.le_refl _
    obtain ⟨A, B, eAB, eA⟩ : ∃ A B, kt = A ++ kt.getD j 0 :: B ∧ A.length = j := ⟨kt.take j, kt.drop (j + 1), by rw [getD_lt hj1]; simp, by rw [List.length_take]; omega⟩
    obtain ⟨kt', e1, e2, e3⟩ := swap_out A B (kt.getD j 0)
    rw [← eAB] at e1 e2 e3
    rw [exy] at e2 ⊢
    refine h _ (Fr_a (s' := (up t.1 10 _, t.2)) (Fr_u (Fr_refl _ _ _) (by decide)) (by decide)) ⟨kt', ?_, ?_, ?_⟩
    · have : (x :: kt').Perm (x :: l) := (e2.trans hp).trans (List.perm_append_comm (l₁ := l) (l₂ := [x]))
      exact (List.perm_cons x).mp this
    · show up t.1 10 (nI (kt.length - 1)) 10 = _
      rw [up_s]; congr 1; omega
    · intro i hi
      rw [p2s, e3 i hi, eA]
      by_cases c : i = j
      · rw [if_pos c, c, upd_s]; congr 1; omega
      · rw [if_neg c, upd_n c]; exact hH i (by omega)
  have key : ∀ (m i : Nat), i + m = kt.length → 1 ≤ i → wl_M_SpillQueueModel_takeFromMemory_4 Q (fun v9 v10 s8 => vp_in v9 100 ∧ (∀ v12 : Int32, v12 = s8.2 1 v9.toNatClampNeg → ∀ v13 : Int32, v13 = (s8.1 10) - 1 → vp_in v13 100 ∧ (∀ v15 : Int32, v15 = s8.2 1 v13.toNatClampNeg → vp_in v9 100 ∧ (Q v12 (up s8.1 10 (v13), ua s8.2 1 (upd (s8.2 1) v9.toNatClampNeg v15)))))) (m + 1) (oI (pick (fun _ => true) (fun i => kt.getD i 0) i)) (nI i) t := by
    intro m
    induction m with
    | zero =>
      intro i hi h1
      have : i = kt.length := by omega
      subst this
      refine br_t (by rw [h10]; (first | omega | ((simp (disch := omega) only [li0, li1, li2, li3, li4, li5, li9, li11, li40, li100, li200, li8000, li10000, lt_nI, le_nI, eq_nI]); done) | ((simp (disch := omega) only [li0, li1, li2, li3, li4, li5, li9, li11, li40, li100, li200, li8000, li10000, lt_nI, le_nI, eq_nI]); omega))) ?_
      cases hj : pick (fun _ => true) (fun i => kt.getD i 0) kt.length with
      | none => have := pick_none hj 0 (by omega); cases this
      | some j => exact fin j hj
    | succ m ih =>
      intro i hi h1
      have ih1 := ih (i + 1) (by omega) (by omega)
      refine br_f (by rw [h10]; (first | omega | ((simp (disch := omega) only [li0, li1, li2, li3, li4, li5, li9, li11, li40, li100, li200, li8000, li10000, lt_nI, le_nI, eq_nI]); done) | ((simp (disch := omega) only [li0, li1, li2, li3, li4, li5, li9, li11, li40, li100, li200, li8000, li10000, lt_nI, le_nI, eq_nI]); omega))) ?_
      cases hj : pick (fun _ => true) (fun i => kt.getD i 0) i with
      | none => have := pick_none hj 0 (by omega); cases this
      | some j =>
        have hj1 := (pick_lt hj).1
        refine ⟨vp_in_nI (by omega) (by omega), ?_⟩
        refine ⟨vp_in_nI (n := j) (by omega) (by omega), ?_⟩
        have ej : (oI (some j)).toNatClampNeg = j := cl_nI (by omega)
        rw [ej, cl_nI (by omega), hH j (by omega), hH i (by omega)]
        refine ⟨fun q => ?_, fun q => ?_⟩
        · (intro v hv; subst hv)
          rw [nI_1]
          rw [pick_keep (el := fun _ => true) rfl hj q] at ih1
          exact ih1
        · (intro v hv; subst hv)
          rw [nI_1]
          rw [pick_swap (el := fun _ => true) rfl hj q] at ih1
          exact ih1
  obtain ⟨k, hk⟩ : ∃ k, kt.length = k + 1 := ⟨kt.length - 1, by omega⟩
  exact ⟨k + 1, key k 1 (by omega) (Nat.le_refl 1)⟩
/-! the merge's cursors -/
def MC (t : gS) (n : Nat) (ch : Nat → Bool) (cs : Nat → ARun) : Prop := t.1 12 = nI n ∧ n ≤ 9 ∧ ∀ i, i < n → t.2 13 i = bI (ch i) ∧ t.2 12 i = nI (cs i).2.2.1 ∧ (cs i).2.2.1 < 8000 ∧ (0 < (cs i).2.2.1 → t.2 10 i = nI ((cs i).1.headD 0) ∧ t.2 11 i = nI (cs i).2.1)
theorem MC_fr {t t' : gS} {n : Nat} {ch : Nat → Bool} {cs : Nat → ARun} (hR : MC t n ch cs) {X Y : List Nat} (h : Fr X Y t t') (h0 : 12 ∉ X) (h1 : 10 ∉ Y ∧ 11 ∉ Y ∧ 12 ∉ Y ∧ 13 ∉ Y) : MC t' n ch cs := by
  refine ⟨(h.1 12 h0).trans hR.1, hR.2.1, fun i hi => ?_⟩
  rw [h.2 10 h1.1, h.2 11 h1.2.1, h.2 12 h1.2.2.1, h.2 13 h1.2.2.2]
  exact hR.2.2 i hi
theorem runOK_head {bl wd : Nat} {D : Nat → Nat → Int32} {r : ARun} (hw : 11 ≤ wd ∧ wd ≤ 40) (h : RunOK bl wd D r) : 2 ≤ r.1.headD 0 ∧ r.1.headD 0 < bl ∧ D (r.1.headD 0) 1 = nI (r.1.tail.headD 0) := by
  have hk := runOK_cnt hw h
  cases e : r.1 with
  | nil => rw [e] at hk; simp at hk
  | cons x u =>
    have h5 := h.2.2.2.2.1 x (by rw [e]; exact List.mem_cons_self)
    have h6 := h.2.2.2.2.2
    rw [e] at h6
    exact ⟨h5.1, h5.2, (chained_cons.mp h6).1⟩
theorem m_headOf {t : gS} {bl wd mm fn : Nat} {D : Nat → Nat → Int32} (hB : BM t bl wd mm fn D) {n : Nat} {ch : Nat → Bool} {cs : Nat → ARun} (hR : MC t n ch cs) {i : Nat} (hi : i < n) (h0 : 0 < (cs i).2.2.1) (hok : RunOK bl wd D (cs i)) {Q : Int32 → gS → Prop} (h : Q (aH D (cs i)) t) : wp_M_SpillQueueModel_headOf (nI i) t Q := by
  have hz := hB.2.2.2.2.1
  have h9 := hR.2.1
  have hr := hR.2.2 i hi
  have hh := runOK_head ⟨by omega, by omega⟩ hok
  have hb := hok.2.2.2.1
  unfold wp_M_SpillQueueModel_headOf
  rw [cl_nI (by omega), (hr.2.2.2 h0).1, (hr.2.2.2 h0).2, li2, nI_add]
  refine ⟨vp_in_nI (by omega) (by omega), ?_⟩
  refine ⟨vp_in_nI (by omega) (by omega), ?_⟩
  exact m_at hB hh.2.1 (by omega) h
theorem m_takeRuns {t : gS} {bl wd mm fn : Nat} {D : Nat → Nat → Int32} (hB : BM t bl wd mm fn D) {n : Nat} {ch : Nat → Bool} {cs : Nat → ARun} (hR : MC t n ch cs) (hok : ∀ i, i < n → 0 < (cs i).2.2.1 → RunOK bl wd D (cs i)) {q : Nat} (hq : pick (elM ch cs) (fun i => aH D (cs i)) n = some q) {Q : Int32 → gS → Prop} (h : ∀ t', Fr [] [10, 11, 12] t t' → MC t' n ch (updR cs q (adv wd (cs q))) → Q (aH D (cs q)) t') : wp_M_SpillQueueModel_takeFromRuns t Q := by
  have hz := hB.2.2.2.2.1
  have h9 := hR.2.1
  have elp : ∀ i, elM ch cs i = true → 0 < (cs i).2.2.1 ∧ ch i = true := fun i hi => by
    simp only [elM, Bool.and_eq_true, decide_eq_true_eq] at hi; exact hi
  unfold wp_M_SpillQueueModel_takeFromRuns
  generalize hK : (fun (v19 v20 : Int32) (s18 : gS) => wp_M_SpillQueueModel_headOf v19 s18 (fun r22 s21 => vp_in v19 16 ∧ (∀ v24 : Int32, v24 = (s21.2 12 v19.toNatClampNeg) - 1 → vp_in v19 16 ∧ (vp_in v19 16 ∧ (∀ v27 : Int32, v27 = (s21.2 11 v19.toNatClampNeg) + 1 → vp_in v19 16 ∧ (vp_in v19 16 ∧ (wp_M_SpillQueueModel_room (s21.1, ua (ua s21.2 12 (upd (s21.2 12) v19.toNatClampNeg v24)) 11 (upd (s21.2 11) v19.toNatClampNeg v27)) (fun r31 s30 => ((¬ ((upd (s21.2 11) v19.toNatClampNeg v27) v19.toNatClampNeg) = r31 → Q r22 s30) ∧ (((upd (s21.2 11) v19.toNatClampNeg v27) v19.toNatClampNeg) = r31 → vp_in v19 16 ∧ (vp_in v19 16 ∧ (wp_M_SpillQueueModel_at (s30.2 10 v19.toNatClampNeg) 1 (s30.1, ua s30.2 11 (upd (s30.2 11) v19.toNatClampNeg 0)) (fun r36 s35 => vp_in v19 16 ∧ (Q r22 (s35.1, ua s35.2 10 (upd (s35.2 10) v19.toNatClampNeg r36)))))))))))))))) = K
  have fin : K (nI q) (nI n) t := by
    rw [← hK]
    have hql := pick_lt hq
    have hqe := elp q hql.2
    have hokq := hok q hql.1 hqe.1
    have hr := hR.2.2 q hql.1
    have hk := runOK_cnt ⟨by omega, by omega⟩ hokq
    have hh := runOK_head ⟨by omega, by omega⟩ hokq
    have hb := hokq.2.2.2.1
    refine m_headOf hB hR hql.1 hqe.1 hokq ?_
    rw [cl_nI (by omega), hr.2.1, (hr.2.2.2 hqe.1).2, li1, pk_sub (by omega), nI_add]
    refine ⟨vp_in_nI (by omega) (by omega), ?_⟩
    (intro v hv; subst hv)
    refine ⟨vp_in_nI (by omega) (by omega), ?_⟩
    refine ⟨vp_in_nI (by omega) (by omega), ?_⟩
    (intro v hv; subst hv)
    refine ⟨vp_in_nI (by omega) (by omega), ?_⟩
    refine ⟨vp_in_nI (by omega) (by omega), ?_⟩
    have hF : Fr [] [10, 11, 12] t (t.1, ua (ua t.2 12 (upd (t.2 12) q (nI ((cs q).2.2.1 - 1)))) 11 (upd (t.2 11) q (nI ((cs q).2.1 + 1)))) := Fr_a (s' := (t.1, ua t.2 12 _)) (Fr_a (Fr_refl _ _ _) (by decide)) (by decide)
    have hB1 := BM_fr hB hF (by decide) (by decide)
    refine m_room hB1 ?_
    rw [upd_s]
    have fin2 : ∀ (t' : gS) (r : ARun), t'.1 12 = t.1 12 → (∀ j, j ≠ q → t'.2 10 j = t.2 10 j ∧ t'.2 11 j = t.2 11 j ∧ t'.2 12 j = t.2 12 j) → t'.2 13 = t.2 13 → t'.2 12 q = nI r.2.2.1 → r.2.2.1 < 8000 → (0 < r.2.2.1 → t'.2 10 q = nI (r.1.headD 0) ∧ t'.2 11 q = nI r.2.1) → MC t' n ch (updR cs q r) := by
      intro t' r e12 eo e13 eq1 eq2 eq3
      refine ⟨e12.trans hR.1, h9, fun i hi => ?_⟩
      rw [e13]
      by_cases c : i = q
      · subst c; rw [updR_s]; exact ⟨(hR.2.2 i hi).1, eq1, eq2, eq3⟩
      · rw [updR_n c, (eo i c).1, (eo i c).2.1, (eo i c).2.2]; exact hR.2.2 i hi
    by_cases c : (cs q).2.1 + 1 = wd - 2
    · refine br_nf (by rw [c]) ?_
      refine ⟨vp_in_nI (by omega) (by omega), ?_⟩
      refine ⟨vp_in_nI (by omega) (by omega), ?_⟩
      have e10 : ((t.1, ua (ua t.2 12 (upd (t.2 12) q (nI ((cs q).2.2.1 - 1)))) 11 (upd (t.2 11) q (nI ((cs q).2.1 + 1)))) : gS).2 10 q = nI ((cs q).1.headD 0) := by
        rw [p2n rfl, ua_n rfl]; exact (hr.2.2.2 hqe.1).1
      rw [e10]
      refine m_at (i := 1) (BM_fr hB1 (Fr_a (X := []) (Y := [11]) (Fr_refl _ _ _) (by decide)) (by decide) (by decide)) hh.2.1 (by omega) ?_
      refine ⟨vp_in_nI (by omega) (by omega), ?_⟩
      refine h _ (Fr_a (s' := (_, ua _ 11 _)) (Fr_a hF (by decide)) (by decide)) (fin2 _ _ rfl ?_ ?_ ?_ ?_ ?_)
      · intro j hj; simp [ua_i, upd_n hj]
      · simp [ua_i]
      · rw [adv_cnt]; simp [ua_i, upd_s]
      · rw [adv_cnt]; omega
      · intro h0
        rw [adv_cnt] at h0
        have ea : adv wd (cs q) = ((cs q).1.tail, 0, (cs q).2.2.1 - 1, (cs q).2.2.2) := by
          unfold adv; rw [if_pos ⟨by omega, by omega⟩]
        rw [ea]
        refine ⟨?_, ?_⟩
        · simp only [ua_i, Nat.reduceEqDiff, if_true, if_false, reduceIte, upd_s]; exact hh.2.2
        · simp only [ua_i, Nat.reduceEqDiff, if_true, if_false, reduceIte, upd_s]; rfl
    · refine br_nt (by (first | omega | ((simp (disch := omega) only [li0, li1, li2, li3, li4, li5, li9, li11, li40, li100, li200, li8000, li10000, lt_nI, le_nI, eq_nI]); done) | ((simp (disch := omega) only [li0, li1, li2, li3, li4, li5, li9, li11, li40, li100, li200, li8000, li10000, lt_nI, le_nI, eq_nI]); omega))) ?_
      refine h _ hF (fin2 _ _ rfl ?_ ?_ ?_ ?_ ?_)
      · intro j hj; simp [ua_i, upd_n hj]
      · simp [ua_i]
      · rw [adv_cnt]; simp [ua_i, upd_s]
      · rw [adv_cnt]; omega
      · intro h0
        rw [adv_cnt] at h0
        have ea : adv wd (cs q) = ((cs q).1, (cs q).2.1 + 1, (cs q).2.2.1 - 1, (cs q).2.2.2) := by
          unfold adv; rw [if_neg (by omega)]
        rw [ea]
        refine ⟨?_, ?_⟩
        · simp only [ua_i, Nat.reduceEqDiff, if_true, if_false, reduceIte]; exact (hr.2.2.2 hqe.1).1
        · simp only [ua_i, Nat.reduceEqDiff, if_true, if_false, reduceIte, upd_s]
  have key : ∀ (m i : Nat), i + m = n → wl_M_SpillQueueModel_takeFromRuns_4 Q K (m + 1) (oI (pick (elM ch cs) (fun i => aH D (cs i)) i)) (nI i) t := by
    intro m
    induction m with
    | zero =>
      intro i hi
      have : i = n := by omega
      subst this
      rw [hq]
      exact br_t (by rw [hR.1]; (first | omega | ((simp (disch := omega) only [li0, li1, li2, li3, li4, li5, li9, li11, li40, li100, li200, li8000, li10000, lt_nI, le_nI, eq_nI]); done) | ((simp (disch := omega) only [li0, li1, li2, li3, li4, li5, li9, li11, li40, li100, li200, li8000, li10000, lt_nI, le_nI, eq_nI]); omega))) fin
    | succ m ih =>
      intro i hi
      have ih1 := ih (i + 1) (by omega)
      have hr := hR.2.2 i (by omega)
      rw [wl_M_SpillQueueModel_takeFromRuns_4, hR.1]
      refine br_f (by (first | omega | ((simp (disch := omega) only [li0, li1, li2, li3, li4, li5, li9, li11, li40, li100, li200, li8000, li10000, lt_nI, le_nI, eq_nI]); done) | ((simp (disch := omega) only [li0, li1, li2, li3, li4, li5, li9, li11, li40, li100, li200, li8000, li10000, lt_nI, le_nI, eq_nI]); omega))) ?_
      refine ⟨vp_in_nI (by omega) (by omega), ?_⟩
      rw [cl_nI (by omega), hr.1, hr.2.1]
      have hlt := hr.2.2.1
      cases hci : ch i with
      | false =>
        refine br_t rfl ?_
        (intro v hv; subst hv)
        rw [nI_1]
        rw [pick_skip (n := i) (by simp [elM, hci])] at ih1
        exact ih1
      | true =>
        refine br_f (by decide) ?_
        refine ⟨vp_in_nI (by omega) (by omega), ?_⟩
        by_cases c0 : (cs i).2.2.1 = 0
        · refine br_t (by rw [c0]; decide) ?_
          (intro v hv; subst hv)
          rw [nI_1]
          rw [pick_skip (n := i) (by simp [elM, c0])] at ih1
          exact ih1
        · refine br_f (by (first | omega | ((simp (disch := omega) only [li0, li1, li2, li3, li4, li5, li9, li11, li40, li100, li200, li8000, li10000, lt_nI, le_nI, eq_nI]); done) | ((simp (disch := omega) only [li0, li1, li2, li3, li4, li5, li9, li11, li40, li100, li200, li8000, li10000, lt_nI, le_nI, eq_nI]); omega))) ?_
          have he : elM ch cs i = true := by simp [elM, hci]; omega
          cases hp : pick (elM ch cs) (fun i => aH D (cs i)) i with
          | none =>
            refine br_t oI_neg ?_
            (intro v hv; subst hv)
            rw [nI_1]
            rw [pick_new he hp] at ih1
            exact ih1
          | some j =>
            have hj := pick_lt hp
            have hje := elp j hj.2
            refine br_f (oI_pos (by omega)) ?_
            refine m_headOf hB hR (by omega) (by omega) (hok i (by omega) (by omega)) ?_
            refine m_headOf (i := j) hB hR (by omega) hje.1 (hok j (by omega) hje.1) ?_
            refine ⟨fun qq => ?_, fun qq => ?_⟩
            · (intro v hv; subst hv)
              rw [nI_1]
              rw [pick_keep he hp qq] at ih1
              exact ih1
            · (intro v hv; subst hv)
              rw [nI_1]
              rw [pick_swap he hp qq] at ih1
              exact ih1
  exact ⟨n + 1, key n 0 (by omega)⟩
