/-! The reference: disk, rows, marks, free blocks. -/
theorem m_at {t : gS} {bl wd mm fn : Nat} {D : Nat → Nat → Int32} (hB : BM t bl wd mm fn D) {b i : Nat} (hb : b < bl) (hi : i < wd) {Q : Int32 → gS → Prop} (h : Q (D b i) t) : wp_M_SpillQueueModel_at (nI b) (nI i) t Q := by
  have hz := hB.2.2.2.2.1
  unfold wp_M_SpillQueueModel_at
  rw [li40, pk_mul, nI_add, cl_nI (by omega), hB.2.2.2.2.2 b i hb hi]
  exact ⟨vp_in_nI (by omega) (by omega), h⟩
theorem m_room {t : gS} {bl wd mm fn : Nat} {D : Nat → Nat → Int32} (hB : BM t bl wd mm fn D) {Q : Int32 → gS → Prop} (h : Q (nI (wd - 2)) t) : wp_M_SpillQueueModel_room t Q := by
  have hz := hB.2.2.2.2.1
  unfold wp_M_SpillQueueModel_room
  rw [hB.2.1, li2, pk_sub (by omega)]
  exact h
theorem m_most {t : gS} {bl wd mm fn : Nat} {D : Nat → Nat → Int32} (hB : BM t bl wd mm fn D) {Q : Int32 → gS → Prop} (h : Q (nI ((wd - 3) / 4)) t) : wp_M_SpillQueueModel_most t Q := by
  have hz := hB.2.2.2.2.1
  unfold wp_M_SpillQueueModel_most
  rw [hB.2.1, li3, pk_sub (by omega), li4, pk_div (by omega) (by omega) (by omega)]
  exact h
theorem m_blocksOf {t : gS} {bl wd mm fn : Nat} {D : Nat → Nat → Int32} (hB : BM t bl wd mm fn D) {a b : Nat} (hab : a + b < 2 ^ 30) {Q : Int32 → gS → Prop} (h : Q (nI ((a + b + (wd - 3)) / (wd - 2))) t) : wp_M_SpillQueueModel_blocksOf (nI a) (nI b) t Q := by
  have hz := hB.2.2.2.2.1
  unfold wp_M_SpillQueueModel_blocksOf
  refine m_room hB (m_room hB ⟨by (first | omega | ((simp (disch := omega) only [li0, li1, li2, li3, li4, li5, li9, li11, li40, li100, li200, li8000, li10000, lt_nI, le_nI, eq_nI]); done) | ((simp (disch := omega) only [li0, li1, li2, li3, li4, li5, li9, li11, li40, li100, li200, li8000, li10000, lt_nI, le_nI, eq_nI]); omega)), ?_⟩)
  have e : (nI a + nI b + nI (wd - 2) - 1) / nI (wd - 2) = nI ((a + b + (wd - 3)) / (wd - 2)) := by
    rw [nI_add, nI_add, li1, pk_sub (by omega), pk_div (by omega) (by omega) (by omega)]
    congr 2; omega
  rw [e]; exact h
theorem m_sumOf {t : gS} {bl wd mm fn : Nat} {D : Nat → Nat → Int32} (hB : BM t bl wd mm fn D) {b : Nat} (hb : b < bl) {Q : Int32 → gS → Prop} (h : Q (sumN (D b) wd) t) : wp_M_SpillQueueModel_sumOf (nI b) t Q := by
  have hz := hB.2.2.2.2.1
  have key : ∀ (m i : Nat), i + m = wd → 1 ≤ i → wl_M_SpillQueueModel_sumOf_5 Q (fun v _ s5 => Q v s5) (nI b) (m + 1) (sumN (D b) i) (nI i) t := by
    intro m
    induction m with
    | zero =>
      intro i hi h1
      have : i = wd := by omega
      subst this
      refine br_t (by rw [hB.2.1]; (first | omega | ((simp (disch := omega) only [li0, li1, li2, li3, li4, li5, li9, li11, li40, li100, li200, li8000, li10000, lt_nI, le_nI, eq_nI]); done) | ((simp (disch := omega) only [li0, li1, li2, li3, li4, li5, li9, li11, li40, li100, li200, li8000, li10000, lt_nI, le_nI, eq_nI]); omega))) h
    | succ m ih =>
      intro i hi h1
      refine br_f (by rw [hB.2.1]; (first | omega | ((simp (disch := omega) only [li0, li1, li2, li3, li4, li5, li9, li11, li40, li100, li200, li8000, li10000, lt_nI, le_nI, eq_nI]); done) | ((simp (disch := omega) only [li0, li1, li2, li3, li4, li5, li9, li11, li40, li100, li200, li8000, li10000, lt_nI, le_nI, eq_nI]); omega))) ?_
      refine m_at hB hb (by omega) ?_
      (intro v hv; subst hv)
      (intro v hv; subst hv)
      have e1 : (2 : Int32) * nI i + 1 = nI (2 * i + 1) := by rw [li2, pk_mul, nI_1]
      rw [e1, nI_1]
      obtain ⟨i, rfl⟩ : ∃ j, i = j + 1 := ⟨i - 1, by omega⟩
      exact ih (i + 2) (by omega) (by omega)
  refine ⟨wd, ?_⟩
  obtain ⟨w, rfl⟩ : ∃ w, wd = w + 1 := ⟨wd - 1, by omega⟩
  exact key w 1 (by omega) (Nat.le_refl 1)
theorem m_clearRow {t : gS} {Q : gS → Prop} (h : ∀ f : Nat → Int32, (∀ j, j < 40 → f j = 0) → Q (t.1, ua t.2 8 f)) : wp_M_SpillQueueModel_clearRow t Q := by
  have key : ∀ (m i : Nat) (f : Nat → Int32), i + m = 40 → (∀ j, j < i → f j = 0) → wl_M_SpillQueueModel_clearRow_2 Q (fun _ s5 => Q s5) (m + 1) (nI i) (t.1, ua t.2 8 f) := by
    intro m
    induction m with
    | zero =>
      intro i f hi hf
      exact br_t (by (first | omega | ((simp (disch := omega) only [li0, li1, li2, li3, li4, li5, li9, li11, li40, li100, li200, li8000, li10000, lt_nI, le_nI, eq_nI]); done) | ((simp (disch := omega) only [li0, li1, li2, li3, li4, li5, li9, li11, li40, li100, li200, li8000, li10000, lt_nI, le_nI, eq_nI]); omega))) (h f (fun j hj => hf j (by omega)))
    | succ m ih =>
      intro i f hi hf
      refine br_f (by (first | omega | ((simp (disch := omega) only [li0, li1, li2, li3, li4, li5, li9, li11, li40, li100, li200, li8000, li10000, lt_nI, le_nI, eq_nI]); done) | ((simp (disch := omega) only [li0, li1, li2, li3, li4, li5, li9, li11, li40, li100, li200, li8000, li10000, lt_nI, le_nI, eq_nI]); omega))) ?_
      refine ⟨vp_in_nI (by omega) (by omega), ?_⟩
      (intro v hv; subst hv)
      have := ih (i + 1) (upd f i 0) (by omega) (fun j hj => by
        by_cases e : j = i
        · rw [e, upd_s]
        · rw [upd_n e]; exact hf j (by omega))
      show wl_M_SpillQueueModel_clearRow_2 Q (fun _ s5 => Q s5) (m + 1) (nI i + 1) (t.1, ua (ua t.2 8 f) 8 (upd (ua t.2 8 f 8) (nI i).toNatClampNeg 0))
      rw [ua_ua, ua_s, cl_nI (by omega), nI_1]
      exact this
  refine ⟨41, ?_⟩
  have := key 40 0 (t.2 8) rfl (fun j hj => absurd hj (by omega))
  rw [ua_id] at this
  exact this
/-- the words of a block go to the disk, then its sum -/
theorem m_writeIt {t : gS} {bl wd mm fn : Nat} {D : Nat → Nat → Int32} (hB : BM t bl wd mm fn D) {b : Nat} (hb : b < bl) {Q : gS → Prop} (h : ∀ f, BM (t.1, ua t.2 0 f) bl wd mm fn (wrB D wd b (t.2 8)) → Q (t.1, ua t.2 0 f)) : ∃ n11 : Nat, wl_M_SpillQueueModel_write_57 Q (fun v13 s12 => wp_M_SpillQueueModel_sumOf (nI b) s12 (fun r15 s14 => vp_in (40 * (nI b)) 8000 ∧ (Q (s14.1, ua s14.2 0 (upd (s14.2 0) (40 * (nI b)).toNatClampNeg r15))))) (nI b) n11 1 t := by
  have hz := hB.2.2.2.2.1
  obtain ⟨h2, h3, h4, h5, -, hD⟩ := hB
  generalize hK : (fun v13 s12 => wp_M_SpillQueueModel_sumOf (nI b) s12 (fun r15 s14 => vp_in (40 * (nI b)) 8000 ∧ (Q (s14.1, ua s14.2 0 (upd (s14.2 0) (40 * (nI b)).toNatClampNeg r15))))) = K
  have key : ∀ (m i : Nat) (f : Nat → Int32), i + m = wd → 1 ≤ i → (∀ b' j, b' < bl → j < wd → f (40 * b' + j) = if b' = b ∧ 1 ≤ j ∧ j < i then t.2 8 j else D b' j) → wl_M_SpillQueueModel_write_57 Q K (nI b) (m + 1) (nI i) (t.1, ua t.2 0 f) := by
    intro m
    induction m with
    | zero =>
      intro i f hi h1 hf
      have : i = wd := by omega
      subst this
      refine br_t (by show t.1 3 ≤ _; rw [h3]; (first | omega | ((simp (disch := omega) only [li0, li1, li2, li3, li4, li5, li9, li11, li40, li100, li200, li8000, li10000, lt_nI, le_nI, eq_nI]); done) | ((simp (disch := omega) only [li0, li1, li2, li3, li4, li5, li9, li11, li40, li100, li200, li8000, li10000, lt_nI, le_nI, eq_nI]); omega))) ?_
      rw [← hK]
      have hB1 : BM (t.1, ua t.2 0 f) bl i mm fn (fun b' j => if b' = b ∧ 1 ≤ j ∧ j < i then t.2 8 j else D b' j) := ⟨h2, h3, h4, h5, hz, fun b' j hb' hj => by rw [p2s]; exact hf b' j hb' hj⟩
      refine m_sumOf hB1 hb ?_
      rw [li40, pk_mul]
      refine ⟨vp_in_nI (by omega) (by omega), ?_⟩
      rw [cl_nI (by omega), p2s]
      show Q (t.1, ua (ua t.2 0 f) 0 _)
      rw [ua_ua]
      refine h _ ⟨h2, h3, h4, h5, hz, fun b' j hb' hj => ?_⟩
      rw [p2s]
      by_cases e : 40 * b' + j = 40 * b
      · have e1 : b' = b := by omega
        have e2 : j = 0 := by omega
        subst e1 e2
        rw [show 40 * b' + 0 = 40 * b' from rfl, upd_s]
        unfold wrB
        rw [if_pos rfl, if_pos rfl]
        exact sumN_congr i (fun q q1 q2 => if_pos ⟨rfl, q1, q2⟩)
      · rw [upd_n e, hf b' j hb' hj]
        unfold wrB
        by_cases c : b' = b
        · rw [if_pos c, if_pos ⟨c, by omega, hj⟩, if_neg (by omega)]
        · rw [if_neg c, if_neg (fun q => c q.1)]
    | succ m ih =>
      intro i f hi h1 hf
      refine br_f (by show ¬ t.1 3 ≤ _; rw [h3]; (first | omega | ((simp (disch := omega) only [li0, li1, li2, li3, li4, li5, li9, li11, li40, li100, li200, li8000, li10000, lt_nI, le_nI, eq_nI]); done) | ((simp (disch := omega) only [li0, li1, li2, li3, li4, li5, li9, li11, li40, li100, li200, li8000, li10000, lt_nI, le_nI, eq_nI]); omega))) ?_
      refine ⟨vp_in_nI (by omega) (by omega), ?_⟩
      (intro v hv; subst hv)
      rw [cl_nI (by omega), li40, pk_mul, nI_add, cl_nI (by omega)]
      refine ⟨vp_in_nI (by omega) (by omega), ?_⟩
      (intro v hv; subst hv)
      rw [nI_1, p2s]
      have e8 : ((t.1, ua t.2 0 f) : gS).2 8 i = t.2 8 i := by rw [p2n rfl]
      rw [e8]
      show wl_M_SpillQueueModel_write_57 Q _ (nI b) (m + 1) (nI (i + 1)) (t.1, ua (ua t.2 0 f) 0 (upd f (40 * b + i) (t.2 8 i)))
      rw [ua_ua]
      refine ih (i + 1) _ (by omega) (by omega) (fun b' j hb' hj => ?_)
      by_cases e : 40 * b' + j = 40 * b + i
      · have e1 : b' = b := by omega
        have e2 : j = i := by omega
        subst e1 e2
        rw [upd_s, if_pos ⟨rfl, h1, by omega⟩]
      · rw [upd_n e, hf b' j hb' hj]
        by_cases c : b' = b ∧ 1 ≤ j ∧ j < i
        · rw [if_pos c, if_pos ⟨c.1, c.2.1, by omega⟩]
        · rw [if_neg c, if_neg (fun q => c ⟨q.1, q.2.1, by
            have : ¬ j = i := fun e3 => e (by rw [q.1, e3])
            omega⟩)]
  obtain ⟨w, rfl⟩ : ∃ w, wd = w + 1 := ⟨wd - 1, by omega⟩
  refine ⟨w + 1, ?_⟩
  have := key w 1 (t.2 0) (by omega) (Nat.le_refl 1) (fun b' j hb' hj => by rw [if_neg (by omega)]; exact hD b' j hb' hj)
  rw [ua_id] at this
  exact this
theorem m_write {t : gS} {bl wd mm fn : Nat} {D : Nat → Nat → Int32} (hB : BM t bl wd mm fn D) {b cut : Nat} (hb : b < bl) (h9 : t.1 9 = 0) (hc : t.1 7 = nI cut) (hcl : cut ≤ 10000) {Q : gS → Prop} (h1 : cut = 1 → Q (up t.1 9 1, t.2)) (h2 : cut ≠ 1 → ∀ f, BM (up (up t.1 7 (nI (cut - 1))) 6 (t.1 6 + 1), ua t.2 0 f) bl wd mm fn (wrB D wd b (t.2 8)) → Q (up (up t.1 7 (nI (cut - 1))) 6 (t.1 6 + 1), ua t.2 0 f)) : wp_M_SpillQueueModel_write (nI b) t Q := by
  unfold wp_M_SpillQueueModel_write
  refine br_nf h9 ?_
  rw [hc]
  by_cases c1 : cut = 1
  · exact br_nf (by rw [c1]; rfl) (h1 c1)
  · refine br_nt (by (first | omega | ((simp (disch := omega) only [li0, li1, li2, li3, li4, li5, li9, li11, li40, li100, li200, li8000, li10000, lt_nI, le_nI, eq_nI]); done) | ((simp (disch := omega) only [li0, li1, li2, li3, li4, li5, li9, li11, li40, li100, li200, li8000, li10000, lt_nI, le_nI, eq_nI]); omega))) ?_
    have hB' : BM (up (up t.1 7 (nI (cut - 1))) 6 (t.1 6 + 1), t.2) bl wd mm fn D := BM_fr hB (Fr_u (X := [6, 7]) (Y := []) (s' := (up t.1 7 _, t.2)) (Fr_u (Fr_refl _ _ _) (by decide)) (by decide)) (by decide) (by decide)
    by_cases c0 : cut = 0
    · subst c0
      refine br_t (by decide) ?_
      (intro v hv; subst hv)
      (intro v hv; subst hv)
      exact m_writeIt hB' hb (h2 (by omega))
    · refine br_f (by (first | omega | ((simp (disch := omega) only [li0, li1, li2, li3, li4, li5, li9, li11, li40, li100, li200, li8000, li10000, lt_nI, le_nI, eq_nI]); done) | ((simp (disch := omega) only [li0, li1, li2, li3, li4, li5, li9, li11, li40, li100, li200, li8000, li10000, lt_nI, le_nI, eq_nI]); omega))) ?_
      rw [li1, pk_sub (by omega)]
      (intro v hv; subst hv)
      (intro v hv; subst hv)
      exact m_writeIt hB' hb (h2 c1)
/-! its runs -/
def RM (t : gS) (n : Nat) (cs : Nat → ARun) : Prop := t.1 12 = nI n ∧ n ≤ 9 ∧ ∀ i, i < n → t.2 2 i = nI ((cs i).1.headD 0) ∧ t.2 3 i = nI (cs i).2.1 ∧ t.2 4 i = nI (cs i).2.2.1 ∧ t.2 5 i = (cs i).2.2.2
theorem RM_fr {t t' : gS} {n : Nat} {cs : Nat → ARun} (hR : RM t n cs) {X Y : List Nat} (h : Fr X Y t t') (h0 : 12 ∉ X) (h1 : 2 ∉ Y ∧ 3 ∉ Y ∧ 4 ∉ Y ∧ 5 ∉ Y) : RM t' n cs := by
  refine ⟨(h.1 12 h0).trans hR.1, hR.2.1, fun i hi => ?_⟩
  rw [h.2 2 h1.1, h.2 3 h1.2.1, h.2 4 h1.2.2.1, h.2 5 h1.2.2.2]
  exact hR.2.2 i hi
theorem m_markIn {t : gS} {bl wd mm fn : Nat} {D : Nat → Nat → Int32} (hB : BM t bl wd mm fn D) {x1 : Int32} {Q : gS → Prop} {K : Int32 → Int32 → gS → Prop} {N : Nat} (hN : N ≤ 200) (l : List Nat) : ∀ (k : Nat) (f : Nat → Int32) (p : Nat → Bool), Chained D l → (∀ x, x ∈ l → 2 ≤ x ∧ x < bl) → k + l.length = N → SetH f p → (∀ a b f', SetH f' (fun j => p j || l.contains j) → K a b (t.1, ua t.2 7 f')) → wl_M_SpillQueueModel_markTaken_59 Q K x1 (nI N) (l.length + 1) (nI (l.headD 0)) (nI k) (t.1, ua t.2 7 f) := by
  have hz := hB.2.2.2.2.1
  induction l with
  | nil =>
    intro k f p hC hx hk hp h
    exact br_t (by simp at hk; (first | omega | ((simp (disch := omega) only [li0, li1, li2, li3, li4, li5, li9, li11, li40, li100, li200, li8000, li10000, lt_nI, le_nI, eq_nI]); done) | ((simp (disch := omega) only [li0, li1, li2, li3, li4, li5, li9, li11, li40, li100, li200, li8000, li10000, lt_nI, le_nI, eq_nI]); omega))) (h (nI 0) (nI k) f (setH_congr hp (fun j _ => by simp)))
  | cons x u ih =>
    intro k f p hC hx hk hp h
    obtain ⟨h1, h2⟩ := chained_cons.mp hC
    have hx0 := hx x List.mem_cons_self
    have hk' : k + u.length + 1 = N := by simp at hk; omega
    refine br_f (by (first | omega | ((simp (disch := omega) only [li0, li1, li2, li3, li4, li5, li9, li11, li40, li100, li200, li8000, li10000, lt_nI, le_nI, eq_nI]); done) | ((simp (disch := omega) only [li0, li1, li2, li3, li4, li5, li9, li11, li40, li100, li200, li8000, li10000, lt_nI, le_nI, eq_nI]); omega))) ?_
    show vp_in (nI x) 200 ∧ _
    refine ⟨vp_in_nI (by omega) (by omega), ?_⟩
    show wp_M_SpillQueueModel_at (nI x) 1 (t.1, ua (ua t.2 7 f) 7 (upd (ua t.2 7 f 7) (nI x).toNatClampNeg (vp_nar .boolean 1))) _
    rw [ua_ua, ua_s, cl_nI (by omega), nb1]
    refine m_at (i := 1) (BM_fr hB (Fr_a (X := []) (Y := [7]) (Fr_refl _ _ t) (by decide)) (by decide) (by decide)) hx0.2 (by omega) ?_
    (intro v hv; subst hv)
    rw [nI_1, h1]
    refine ih (k + 1) (upd f x 1) (sAdd p x) h2 (fun y hy => hx y (List.mem_cons_of_mem _ hy)) (by omega) (setH_add hp x) (fun a b f' hf' => ?_)
    refine h a b f' (setH_congr hf' (fun j _ => ?_))
    simp only [sAdd, List.contains_cons, Bool.or_assoc]
theorem m_markTaken {t : gS} {bl wd mm fn : Nat} {D : Nat → Nat → Int32} (hB : BM t bl wd mm fn D) {n : Nat} {cs : Nat → ARun} (hR : RM t n cs) (hok : ∀ i, i < n → RunOK bl wd D (cs i)) {Q : gS → Prop} (h : ∀ f, SetH f (mkN cs n) → Q (t.1, ua t.2 7 f)) : wp_M_SpillQueueModel_markTaken t Q := by
  have hz := hB.2.2.2.2.1
  have h9 := hR.2.1
  have key2 : ∀ (m i : Nat) (f : Nat → Int32), i + m = n → SetH f (mkN cs i) → wl_M_SpillQueueModel_markTaken_24 Q (fun v26 s25 => Q s25) (m + 1) (nI i) (t.1, ua t.2 7 f) := by
    intro m
    induction m with
    | zero =>
      intro i f hi hf
      have : i = n := by omega
      subst this
      exact br_t (by show t.1 12 ≤ _; rw [hR.1]; (first | omega | ((simp (disch := omega) only [li0, li1, li2, li3, li4, li5, li9, li11, li40, li100, li200, li8000, li10000, lt_nI, le_nI, eq_nI]); done) | ((simp (disch := omega) only [li0, li1, li2, li3, li4, li5, li9, li11, li40, li100, li200, li8000, li10000, lt_nI, le_nI, eq_nI]); omega))) (h f hf)
    | succ m ih =>
      intro i f hi hf
      have hr := hR.2.2 i (by omega)
      have hk := hok i (by omega)
      have hkc := runOK_cnt ⟨by omega, by omega⟩ hk
      refine br_f (by show ¬ t.1 12 ≤ _; rw [hR.1]; (first | omega | ((simp (disch := omega) only [li0, li1, li2, li3, li4, li5, li9, li11, li40, li100, li200, li8000, li10000, lt_nI, le_nI, eq_nI]); done) | ((simp (disch := omega) only [li0, li1, li2, li3, li4, li5, li9, li11, li40, li100, li200, li8000, li10000, lt_nI, le_nI, eq_nI]); omega))) ?_
      refine ⟨vp_in_nI (by omega) (by omega), ?_⟩
      intro v hv
      rw [cl_nI (by omega), p2n rfl, hr.1] at hv
      subst hv
      refine ⟨vp_in_nI (by omega) (by omega), ?_⟩
      refine ⟨vp_in_nI (by omega) (by omega), ?_⟩
      rw [cl_nI (by omega), p2n rfl, p2n rfl, hr.2.1, hr.2.2.1]
      refine m_blocksOf (BM_fr hB (Fr_a (X := []) (Y := [7]) (Fr_refl _ _ t) (by decide)) (by decide) (by decide)) (by omega) ?_
      rw [← hk.1]
      refine ⟨(cs i).1.length + 1, ?_⟩
      refine m_markIn hB hk.2.1 (cs i).1 0 f _ hk.2.2.2.2.2 hk.2.2.2.2.1 (by omega) hf (fun a b f' hf' => ?_)
      (intro v hv; subst hv)
      rw [nI_1]
      exact ih (i + 1) f' (by omega) (setH_congr hf' (fun j _ => by simp only [mkN]))
  have key : ∀ (m i : Nat) (f : Nat → Int32), i + m = 200 → (∀ j, j < i → f j = 0) → wl_M_SpillQueueModel_markTaken_2 Q (fun v6 s5 => ∃ n24 : Nat, wl_M_SpillQueueModel_markTaken_24 Q (fun v26 s25 => Q s25) n24 0 s5) (m + 1) (nI i) (t.1, ua t.2 7 f) := by
    intro m
    induction m with
    | zero =>
      intro i f hi hf
      exact br_t (by (first | omega | ((simp (disch := omega) only [li0, li1, li2, li3, li4, li5, li9, li11, li40, li100, li200, li8000, li10000, lt_nI, le_nI, eq_nI]); done) | ((simp (disch := omega) only [li0, li1, li2, li3, li4, li5, li9, li11, li40, li100, li200, li8000, li10000, lt_nI, le_nI, eq_nI]); omega))) ⟨n + 1, key2 n 0 f (by omega) (fun j hj => hf j (by omega))⟩
    | succ m ih =>
      intro i f hi hf
      refine br_f (by (first | omega | ((simp (disch := omega) only [li0, li1, li2, li3, li4, li5, li9, li11, li40, li100, li200, li8000, li10000, lt_nI, le_nI, eq_nI]); done) | ((simp (disch := omega) only [li0, li1, li2, li3, li4, li5, li9, li11, li40, li100, li200, li8000, li10000, lt_nI, le_nI, eq_nI]); omega))) ?_
      refine ⟨vp_in_nI (by omega) (by omega), ?_⟩
      (intro v hv; subst hv)
      have := ih (i + 1) (upd f i 0) (by omega) (fun j hj => by
        by_cases e : j = i
        · rw [e, upd_s]
        · rw [upd_n e]; exact hf j (by omega))
      show wl_M_SpillQueueModel_markTaken_2 Q _ (m + 1) (nI i + 1) (t.1, ua (ua t.2 7 f) 7 (upd (ua t.2 7 f 7) (nI i).toNatClampNeg (vp_nar .boolean 0)))
      rw [ua_ua, ua_s, cl_nI (by omega), nb0, nI_1]
      exact this
  refine ⟨201, ?_⟩
  have := key 200 0 (t.2 7) rfl (fun j hj => absurd hj (by omega))
  rw [ua_id] at this
  exact this
theorem m_isFree {t : gS} {p q : Nat → Bool} (hp : SetH (t.2 7) p) (hq : SetH (t.2 6) q) {b : Nat} (hb : b < 200) {Q : Int32 → gS → Prop} (h : Q (bI (!(q b || p b))) t) : wp_M_SpillQueueModel_isFree (nI b) t Q := by
  unfold wp_M_SpillQueueModel_isFree
  rw [cl_nI (by omega), hp b hb, hq b hb]
  refine ⟨vp_in_nI (by omega) (by omega), ?_⟩
  cases hpb : p b with
  | true =>
    rw [hpb, Bool.or_true] at h
    exact br_nt (by decide) h
  | false =>
    rw [hpb, Bool.or_false] at h
    refine br_nf rfl ?_
    refine ⟨vp_in_nI (by omega) (by omega), ?_⟩
    cases hqb : q b with
    | true => rw [hqb] at h; exact br_nt (by decide) h
    | false => rw [hqb] at h; exact br_nf rfl h
theorem m_free {t : gS} {bl wd mm fn : Nat} {D : Nat → Nat → Int32} (hB : BM t bl wd mm fn D) {n : Nat} {cs : Nat → ARun} (hR : RM t n cs) (hok : ∀ i, i < n → RunOK bl wd D (cs i)) {q : Nat → Bool} (hq : SetH (t.2 6) q) {Q : Int32 → gS → Prop} (h : ∀ f, SetH f (mkN cs n) → Q (nI (frs (fun j => q j || mkN cs n j) bl).length) (t.1, ua t.2 7 f)) : wp_M_SpillQueueModel_free t Q := by
  have hz := hB.2.2.2.2.1
  unfold wp_M_SpillQueueModel_free
  refine m_markTaken hB hR hok (fun f hf => ?_)
  have h := h f hf
  generalize hP : (fun j => q j || mkN cs n j) = P at *
  have key : ∀ (m i : Nat), i + m = bl → 2 ≤ i → wl_M_SpillQueueModel_free_8 Q (fun v12 v13 s11 => Q v12 s11) (m + 1) (nI (frs P i).length) (nI i) (t.1, ua t.2 7 f) := by
    intro m
    induction m with
    | zero =>
      intro i hi h2
      have : i = bl := by omega
      subst this
      exact br_t (by show t.1 2 ≤ _; rw [hB.1]; (first | omega | ((simp (disch := omega) only [li0, li1, li2, li3, li4, li5, li9, li11, li40, li100, li200, li8000, li10000, lt_nI, le_nI, eq_nI]); done) | ((simp (disch := omega) only [li0, li1, li2, li3, li4, li5, li9, li11, li40, li100, li200, li8000, li10000, lt_nI, le_nI, eq_nI]); omega))) h
    | succ m ih =>
      intro i hi h2
      have ih1 := ih (i + 1) (by omega) (by omega)
      refine br_f (by show ¬ t.1 2 ≤ _; rw [hB.1]; (first | omega | ((simp (disch := omega) only [li0, li1, li2, li3, li4, li5, li9, li11, li40, li100, li200, li8000, li10000, lt_nI, le_nI, eq_nI]); done) | ((simp (disch := omega) only [li0, li1, li2, li3, li4, li5, li9, li11, li40, li100, li200, li8000, li10000, lt_nI, le_nI, eq_nI]); omega))) ?_
      refine m_isFree (p := mkN cs n) (q := q) (by rw [p2s]; exact hf) (by rw [p2n rfl]; exact hq) (by omega) ?_
      have hPi : (q i || mkN cs n i) = P i := by rw [← hP]
      rw [hPi]
      cases hpi : P i with
      | true =>
        refine br_t rfl ?_
        (intro v hv; subst hv)
        have e : frs P (i + 1) = frs P i := by rw [frs, if_neg (by simp [hpi])]
        rw [nI_1]
        rw [e] at ih1
        exact ih1
      | false =>
        refine br_f (by decide) ?_
        (intro v hv; subst hv)
        (intro v hv; subst hv)
        have e : frs P (i + 1) = frs P i ++ [i] := by rw [frs, if_pos ⟨h2, hpi⟩]
        rw [e, List.length_append, List.length_singleton] at ih1
        rw [nI_1, nI_1]
        exact ih1
  obtain ⟨k, rfl⟩ : ∃ k, bl = k + 2 := ⟨bl - 2, by omega⟩
  exact ⟨k + 1, key k 2 (by omega) (by omega)⟩
