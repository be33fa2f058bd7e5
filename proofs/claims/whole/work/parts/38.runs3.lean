/-! The class: levels, choice, free blocks. -/
def cntL (lv : Int32) (cs : Nat → ARun) : Nat → Nat
  | 0 => 0
  | n + 1 => cntL lv cs n + if (cs n).2.2.2 = lv then 1 else 0
theorem cntL_le (lv : Int32) (cs : Nat → ARun) (n : Nat) : cntL lv cs n ≤ n := by
  induction n with
  | zero => simp [cntL]
  | succ n ih => unfold cntL; split <;> omega
theorem c_atLevel {s : gS} {D : Nat → Nat → Int32} {n : Nat} {cs : Nat → ARun} (hR : RC s D n cs) {q : Nat} (hq : q < n) {Q : Int32 → gS → Prop} (h : Q (nI (cntL (cs q).2.2.2 cs n)) s) : wp_Runs_runsAtLevelOf (nI q) s Q := by
  have h9 := hR.2.1
  have key : ∀ (m i : Nat), i + m = n → wl_Runs_runsAtLevelOf_4 Q (fun v10 v11 s9 => Q v10 s9) (nI q) (m + 1) (nI (cntL (cs q).2.2.2 cs i)) (nI i) s := by
    intro m
    induction m with
    | zero =>
      intro i hi
      have : i = n := by omega
      subst this
      exact br_t (by rw [hR.1]; (first | omega | ((simp (disch := omega) only [li0, li1, li2, li3, li4, li5, li9, li11, li40, li100, li200, li8000, li10000, lt_nI, le_nI, eq_nI]); done) | ((simp (disch := omega) only [li0, li1, li2, li3, li4, li5, li9, li11, li40, li100, li200, li8000, li10000, lt_nI, le_nI, eq_nI]); omega))) h
    | succ m ih =>
      intro i hi
      have hr := hR.2.2 i (by omega)
      have ih1 := ih (i + 1) (by omega)
      unfold cntL at ih1
      rw [wl_Runs_runsAtLevelOf_4, hR.1]
      refine br_f (by (first | omega | ((simp (disch := omega) only [li0, li1, li2, li3, li4, li5, li9, li11, li40, li100, li200, li8000, li10000, lt_nI, le_nI, eq_nI]); done) | ((simp (disch := omega) only [li0, li1, li2, li3, li4, li5, li9, li11, li40, li100, li200, li8000, li10000, lt_nI, le_nI, eq_nI]); omega))) ?_
      refine ⟨vp_in_nI (by omega) (by omega), ?_⟩
      refine ⟨vp_in_nI (by omega) (by omega), ?_⟩
      rw [cl_nI (by omega), cl_nI (by omega), hr.1.2.1, (hR.2.2 q hq).1.2.1]
      by_cases e : (cs i).2.2.2 = (cs q).2.2.2
      · refine br_nf e ?_
        (intro v hv; subst hv)
        (intro v hv; subst hv)
        rw [if_pos e] at ih1
        rw [nI_1, nI_1]
        exact ih1
      · refine br_nt e ?_
        (intro v hv; subst hv)
        rw [if_neg e] at ih1
        rw [nI_1]
        exact ih1
  exact ⟨n + 1, key n 0 (by omega)⟩
def elW (fn : Nat) (cs : Nat → ARun) (n : Nat) (i : Nat) : Bool := decide (fn ≤ cntL (cs i).2.2.2 cs n)
def crow (fn : Nat) (cs : Nat → ARun) (n : Nat) : Option Nat := pick (elW fn cs n) (fun i => (cs i).2.2.2) n
theorem c_crowdedAt {s : gS} {D : Nat → Nat → Int32} {n fn : Nat} {cs : Nat → ARun} (hR : RC s D n cs) (hfn : fn ≤ 5) {Q : Int32 → gS → Prop} (h : Q (oI (crow fn cs n)) s) : wp_Runs_crowdedAt (nI fn) s Q := by
  have h9 := hR.2.1
  have key : ∀ (m i : Nat), i + m = n → wl_Runs_crowdedAt_4 Q (fun v15 v16 s14 => Q v15 s14) (nI fn) (m + 1) (oI (pick (elW fn cs n) (fun i => (cs i).2.2.2) i)) (nI i) s := by
    intro m
    induction m with
    | zero =>
      intro i hi
      have : i = n := by omega
      subst this
      exact br_t (by rw [hR.1]; (first | omega | ((simp (disch := omega) only [li0, li1, li2, li3, li4, li5, li9, li11, li40, li100, li200, li8000, li10000, lt_nI, le_nI, eq_nI]); done) | ((simp (disch := omega) only [li0, li1, li2, li3, li4, li5, li9, li11, li40, li100, li200, li8000, li10000, lt_nI, le_nI, eq_nI]); omega))) h
    | succ m ih =>
      intro i hi
      have hr := hR.2.2 i (by omega)
      have ih1 := ih (i + 1) (by omega)
      have hcl := cntL_le (cs i).2.2.2 cs n
      rw [wl_Runs_crowdedAt_4, hR.1]
      refine br_f (by (first | omega | ((simp (disch := omega) only [li0, li1, li2, li3, li4, li5, li9, li11, li40, li100, li200, li8000, li10000, lt_nI, le_nI, eq_nI]); done) | ((simp (disch := omega) only [li0, li1, li2, li3, li4, li5, li9, li11, li40, li100, li200, li8000, li10000, lt_nI, le_nI, eq_nI]); omega))) ?_
      refine c_atLevel hR (q := i) (by omega) ?_
      by_cases e : fn ≤ cntL (cs i).2.2.2 cs n
      · have he : elW fn cs n i = true := by simp [elW, e]
        refine br_f (by (first | omega | ((simp (disch := omega) only [li0, li1, li2, li3, li4, li5, li9, li11, li40, li100, li200, li8000, li10000, lt_nI, le_nI, eq_nI]); done) | ((simp (disch := omega) only [li0, li1, li2, li3, li4, li5, li9, li11, li40, li100, li200, li8000, li10000, lt_nI, le_nI, eq_nI]); omega))) ?_
        cases hp : pick (elW fn cs n) (fun i => (cs i).2.2.2) i with
        | none =>
          refine br_t oI_neg ?_
          (intro v hv; subst hv)
          rw [pick_new he hp] at ih1
          rw [nI_1]
          exact ih1
        | some j =>
          have hj := pick_lt hp
          refine br_f (oI_pos (by omega)) ?_
          refine ⟨vp_in_nI (by omega) (by omega), ?_⟩
          refine ⟨vp_in_nI (n := j) (by omega) (by omega), ?_⟩
          have ej : (oI (some j)).toNatClampNeg = j := cl_nI (by omega)
          rw [ej, cl_nI (by omega), hr.1.2.1, (hR.2.2 j (by omega)).1.2.1]
          refine ⟨fun q => ?_, fun q => ?_⟩
          · (intro v hv; subst hv)
            rw [nI_1]
            rw [pick_keep he hp q] at ih1
            exact ih1
          · (intro v hv; subst hv)
            rw [nI_1]
            rw [pick_swap he hp q] at ih1
            exact ih1
      · refine br_t (by (first | omega | ((simp (disch := omega) only [li0, li1, li2, li3, li4, li5, li9, li11, li40, li100, li200, li8000, li10000, lt_nI, le_nI, eq_nI]); done) | ((simp (disch := omega) only [li0, li1, li2, li3, li4, li5, li9, li11, li40, li100, li200, li8000, li10000, lt_nI, le_nI, eq_nI]); omega))) ?_
        (intro v hv; subst hv)
        rw [nI_1]
        rw [pick_skip (n := i) (by simp [elW]; omega)] at ih1
        exact ih1
  exact ⟨n + 1, key n 0 (by omega)⟩
theorem c_chooseAll {s : gS} {D : Nat → Nat → Int32} {n : Nat} {cs : Nat → ARun} (hR : RC s D n cs) {Q : gS → Prop} (h : ∀ f : Nat → Int32, (∀ i, i < n → f i = bI true) → Q (s.1, ua s.2 8 f)) : wp_Runs_chooseAll s Q := by
  have h9 := hR.2.1
  have key : ∀ (m i : Nat) (f : Nat → Int32), i + m = n → (∀ j, j < i → f j = bI true) → wl_Runs_chooseAll_2 Q (fun v6 s5 => Q s5) (m + 1) (nI i) (s.1, ua s.2 8 f) := by
    intro m
    induction m with
    | zero =>
      intro i f hi hf
      have : i = n := by omega
      subst this
      exact br_t (by show s.1 9 ≤ _; rw [hR.1]; (first | omega | ((simp (disch := omega) only [li0, li1, li2, li3, li4, li5, li9, li11, li40, li100, li200, li8000, li10000, lt_nI, le_nI, eq_nI]); done) | ((simp (disch := omega) only [li0, li1, li2, li3, li4, li5, li9, li11, li40, li100, li200, li8000, li10000, lt_nI, le_nI, eq_nI]); omega))) (h f hf)
    | succ m ih =>
      intro i f hi hf
      refine br_f (by show ¬ s.1 9 ≤ _; rw [hR.1]; (first | omega | ((simp (disch := omega) only [li0, li1, li2, li3, li4, li5, li9, li11, li40, li100, li200, li8000, li10000, lt_nI, le_nI, eq_nI]); done) | ((simp (disch := omega) only [li0, li1, li2, li3, li4, li5, li9, li11, li40, li100, li200, li8000, li10000, lt_nI, le_nI, eq_nI]); omega))) ?_
      refine ⟨vp_in_nI (by omega) (by omega), ?_⟩
      (intro v hv; subst hv)
      have := ih (i + 1) (upd f i 1) (by omega) (fun j hj => by
        by_cases e : j = i
        · rw [e, upd_s]; rfl
        · rw [upd_n e]; exact hf j (by omega))
      show wl_Runs_chooseAll_2 Q (fun v6 s5 => Q s5) (m + 1) (nI i + 1) (s.1, ua (ua s.2 8 f) 8 (upd (ua s.2 8 f 8) (nI i).toNatClampNeg (vp_nar .boolean 1)))
      rw [ua_ua, ua_s, cl_nI (by omega), nb1, nI_1]
      exact this
  refine ⟨n + 1, ?_⟩
  have := key n 0 (s.2 8) (by omega) (fun j hj => absurd hj (by omega))
  rw [ua_id] at this
  exact this
theorem c_chooseLevel {s : gS} {D : Nat → Nat → Int32} {n : Nat} {cs : Nat → ARun} (hR : RC s D n cs) {lv : Int32} {Q : gS → Prop} (h : ∀ f : Nat → Int32, (∀ i, i < n → f i = bI (decide ((cs i).2.2.2 = lv))) → Q (s.1, ua s.2 8 f)) : wp_Runs_chooseLevel lv s Q := by
  have h9 := hR.2.1
  have key : ∀ (m i : Nat) (f : Nat → Int32), i + m = n → (∀ j, j < i → f j = bI (decide ((cs j).2.2.2 = lv))) → wl_Runs_chooseLevel_2 Q (fun v10 s9 => Q s9) lv (m + 1) (nI i) (s.1, ua s.2 8 f) := by
    intro m
    induction m with
    | zero =>
      intro i f hi hf
      have : i = n := by omega
      subst this
      exact br_t (by show s.1 9 ≤ _; rw [hR.1]; (first | omega | ((simp (disch := omega) only [li0, li1, li2, li3, li4, li5, li9, li11, li40, li100, li200, li8000, li10000, lt_nI, le_nI, eq_nI]); done) | ((simp (disch := omega) only [li0, li1, li2, li3, li4, li5, li9, li11, li40, li100, li200, li8000, li10000, lt_nI, le_nI, eq_nI]); omega))) (h f hf)
    | succ m ih =>
      intro i f hi hf
      have hr := hR.2.2 i (by omega)
      refine br_f (by show ¬ s.1 9 ≤ _; rw [hR.1]; (first | omega | ((simp (disch := omega) only [li0, li1, li2, li3, li4, li5, li9, li11, li40, li100, li200, li8000, li10000, lt_nI, le_nI, eq_nI]); done) | ((simp (disch := omega) only [li0, li1, li2, li3, li4, li5, li9, li11, li40, li100, li200, li8000, li10000, lt_nI, le_nI, eq_nI]); omega))) ?_
      refine ⟨vp_in_nI (by omega) (by omega), ?_⟩
      have e6 : (s.1, ua s.2 8 f).2 6 (nI i).toNatClampNeg = (cs i).2.2.2 := by
        rw [cl_nI (by omega)]
        show ua s.2 8 f 6 i = _
        rw [ua_n rfl]; exact hr.1.2.1
      rw [e6]
      have ih1 : ∀ v, v = bI (decide ((cs i).2.2.2 = lv)) → wl_Runs_chooseLevel_2 Q (fun v10 s9 => Q s9) lv (m + 1) (nI (i + 1)) (s.1, ua s.2 8 (upd f i v)) := fun v hv => ih (i + 1) (upd f i v) (by omega) (fun j hj => by
        by_cases e : j = i
        · rw [e, upd_s, hv]
        · rw [upd_n e]; exact hf j (by omega))
      by_cases e : (cs i).2.2.2 = lv
      · refine br_nf e ?_
        refine ⟨vp_in_nI (by omega) (by omega), ?_⟩
        (intro v hv; subst hv)
        have := ih1 1 (by simp [e, bI])
        show wl_Runs_chooseLevel_2 Q (fun v10 s9 => Q s9) lv (m + 1) (nI i + 1) (s.1, ua (ua s.2 8 f) 8 (upd (ua s.2 8 f 8) (nI i).toNatClampNeg (vp_nar .boolean 1)))
        rw [ua_ua, ua_s, cl_nI (by omega), nb1, nI_1]
        exact this
      · refine br_nt e ?_
        refine ⟨vp_in_nI (by omega) (by omega), ?_⟩
        (intro v hv; subst hv)
        have := ih1 0 (by simp [e, bI])
        show wl_Runs_chooseLevel_2 Q (fun v10 s9 => Q s9) lv (m + 1) (nI i + 1) (s.1, ua (ua s.2 8 f) 8 (upd (ua s.2 8 f 8) (nI i).toNatClampNeg (vp_nar .boolean 0)))
        rw [ua_ua, ua_s, cl_nI (by omega), nb0, nI_1]
        exact this
  refine ⟨n + 1, ?_⟩
  have := key n 0 (s.2 8) (by omega) (fun j hj => absurd hj (by omega))
  rw [ua_id] at this
  exact this
theorem c_greatest {s : gS} {D : Nat → Nat → Int32} {n : Nat} {cs : Nat → ARun} (hR : RC s D n cs) (hn : 1 ≤ n) {Q : Int32 → gS → Prop} (h : ∀ g, (∀ i, i < n → (cs i).2.2.2 ≤ g) → (∃ i, i < n ∧ (cs i).2.2.2 = g) → Q g s) : wp_Runs_greatestLevel s Q := by
  have h9 := hR.2.1
  have key : ∀ (m i : Nat) (g : Int32), i + m = n → (∀ j, j < i → (cs j).2.2.2 ≤ g) → (∃ j, j < i ∧ (cs j).2.2.2 = g) → wl_Runs_greatestLevel_9 Q (fun v9 v10 s8 => Q v9 s8) (m + 1) g (nI i) s := by
    intro m
    induction m with
    | zero =>
      intro i g hi h1 h2
      have : i = n := by omega
      subst this
      exact br_t (by rw [hR.1]; (first | omega | ((simp (disch := omega) only [li0, li1, li2, li3, li4, li5, li9, li11, li40, li100, li200, li8000, li10000, lt_nI, le_nI, eq_nI]); done) | ((simp (disch := omega) only [li0, li1, li2, li3, li4, li5, li9, li11, li40, li100, li200, li8000, li10000, lt_nI, le_nI, eq_nI]); omega))) (h g h1 h2)
    | succ m ih =>
      intro i g hi h1 h2
      have hr := hR.2.2 i (by omega)
      rw [wl_Runs_greatestLevel_9, hR.1]
      refine br_f (by (first | omega | ((simp (disch := omega) only [li0, li1, li2, li3, li4, li5, li9, li11, li40, li100, li200, li8000, li10000, lt_nI, le_nI, eq_nI]); done) | ((simp (disch := omega) only [li0, li1, li2, li3, li4, li5, li9, li11, li40, li100, li200, li8000, li10000, lt_nI, le_nI, eq_nI]); omega))) ?_
      refine ⟨vp_in_nI (by omega) (by omega), ?_⟩
      rw [cl_nI (by omega), hr.1.2.1]
      (intro v hv; subst hv)
      (intro v hv; subst hv)
      rw [nI_1]
      by_cases c : g < (cs i).2.2.2
      · rw [if_pos c]
        refine ih (i + 1) _ (by omega) (fun j hj => ?_) ⟨i, by omega, rfl⟩
        rcases Nat.lt_or_eq_of_le (Nat.le_of_lt_succ hj) with q | q
        · exact Int32.le_trans (h1 j q) (Int32.le_of_lt c)
        · rw [q]; exact Int32.le_refl _
      · rw [if_neg c]
        obtain ⟨j0, hj0, e0⟩ := h2
        refine ih (i + 1) _ (by omega) (fun j hj => ?_) ⟨j0, by omega, e0⟩
        rcases Nat.lt_or_eq_of_le (Nat.le_of_lt_succ hj) with q | q
        · exact h1 j q
        · rw [q]; exact Int32.not_lt.mp c
  refine ⟨vp_in_nI (n := 0) (by omega) (by omega), ?_⟩
  (intro v hv; subst hv)
  rw [sb_cl0, (hR.2.2 0 (by omega)).1.2.1]
  obtain ⟨k, rfl⟩ : ∃ k, n = k + 1 := ⟨n - 1, by omega⟩
  refine ⟨k + 1, key k 1 _ (by omega) (fun j hj => ?_) ⟨0, by omega, rfl⟩⟩
  have : j = 0 := by omega
  subst this
  exact Int32.le_refl _
/-! free blocks -/
def frs (p : Nat → Bool) : Nat → List Nat
  | 0 => []
  | n + 1 => if 2 ≤ n ∧ p n = false then frs p n ++ [n] else frs p n
theorem frs_mem {p : Nat → Bool} {n x : Nat} : x ∈ frs p n ↔ 2 ≤ x ∧ x < n ∧ p x = false := by
  induction n with
  | zero => simp [frs]
  | succ n ih =>
    unfold frs
    split
    · rename_i c
      rw [List.mem_append, ih, List.mem_singleton]
      constructor
      · rintro (⟨h1, h2, h3⟩ | rfl)
        · exact ⟨h1, by omega, h3⟩
        · exact ⟨c.1, by omega, c.2⟩
      · rintro ⟨h1, h2, h3⟩
        by_cases e : x = n
        · exact Or.inr e
        · exact Or.inl ⟨h1, by omega, h3⟩
    · rename_i c
      rw [ih]
      constructor
      · rintro ⟨h1, h2, h3⟩; exact ⟨h1, by omega, h3⟩
      · rintro ⟨h1, h2, h3⟩
        refine ⟨h1, ?_, h3⟩
        rcases Nat.lt_or_eq_of_le (Nat.le_of_lt_succ h2) with q | q
        · exact q
        · subst q; exact absurd ⟨h1, h3⟩ c
theorem frs_len (p : Nat → Bool) (n : Nat) : (frs p n).length ≤ n := by
  induction n with
  | zero => simp [frs]
  | succ n ih => unfold frs; split <;> (try rw [List.length_append, List.length_singleton]) <;> omega
theorem frs_nodup (p : Nat → Bool) (n : Nat) : (frs p n).Nodup := by
  induction n with
  | zero => simp [frs]
  | succ n ih =>
    unfold frs
    split
    · refine List.nodup_append.mpr ⟨ih, List.pairwise_singleton _ _, ?_⟩
      intro a ha b hb
      rw [List.mem_singleton] at hb
      have := (frs_mem.mp ha).2.1
      omega
    · exact ih
theorem frs_congr {p q : Nat → Bool} {n : Nat} (h : ∀ j, j < n → p j = q j) : frs p n = frs q n := by
  induction n with
  | zero => rfl
  | succ n ih => unfold frs; rw [ih (fun j hj => h j (by omega)), h n (by omega)]
def HoldN (f : Nat → Int32) (l : List Nat) : Prop := ∀ i, i < l.length → f i = nI (l.getD i 0)
theorem holdN_snoc {f : Nat → Int32} {l : List Nat} {x : Nat} (h : HoldN f l) : HoldN (upd f l.length (nI x)) (l ++ [x]) := by
  intro i hi
  have hi : i < l.length + 1 := by simpa using hi
  by_cases e : i = l.length
  · subst e; rw [upd_s]; simp [List.getD]
  · rw [upd_n e, h i (by omega)]
    simp [List.getD, List.getElem?_append_left (show i < l.length by omega)]
theorem c_gather {s : gS} {bl wd mm fn : Nat} {D : Nat → Nat → Int32} (hB : BC s bl wd mm fn D) {n : Nat} {cs : Nat → ARun} (hR : RC s D n cs) (hok : ∀ i, i < n → RunOK bl wd D (cs i)) {p : Nat → Bool} (hp : SetH (s.2 10) p) {Q : Int32 → gS → Prop} (h : ∀ s', Fr [] [11, 12] s s' → HoldN (s'.2 12) (frs (fun j => p j || mkN cs n j) bl) → Q (nI (frs (fun j => p j || mkN cs n j) bl).length) s') : wp_SpillQueue_gatherFree s Q := by
  have hz := hB.2.2.2.2.1
  unfold wp_SpillQueue_gatherFree
  refine c_copyOf hp (fun f hf => ?_)
  have hF : Fr [] [11, 12] s (s.1, ua s.2 11 f) := Fr_a (Fr_refl _ _ s) (by decide)
  refine c_mark18 (BC_fr hB hF (by decide) (by decide)) (RC_fr hR hF (by decide) (by decide)) hok (p := p) (by show SetH (ua s.2 11 f 11) p; rw [ua_s]; exact hf) (fun f1 hf1 => ?_)
  show ∃ n14, wl_SpillQueue_gatherFree_26 Q _ n14 0 2 (s.1, ua (ua s.2 11 f) 11 f1)
  rw [ua_ua]
  generalize hP : (fun j => p j || mkN cs n j) = P at *
  have key : ∀ (m i : Nat) (g : Nat → Int32), i + m = bl → 2 ≤ i → HoldN g (frs P i) → wl_SpillQueue_gatherFree_26 Q (fun v16 v17 s15 => Q v16 s15) (m + 1) (nI (frs P i).length) (nI i) (s.1, ua (ua s.2 11 f1) 12 g) := by
    intro m
    induction m with
    | zero =>
      intro i g hi h2 hg
      have : i = bl := by omega
      subst this
      refine br_t (by show s.1 3 ≤ _; rw [hB.1]; (first | omega | ((simp (disch := omega) only [li0, li1, li2, li3, li4, li5, li9, li11, li40, li100, li200, li8000, li10000, lt_nI, le_nI, eq_nI]); done) | ((simp (disch := omega) only [li0, li1, li2, li3, li4, li5, li9, li11, li40, li100, li200, li8000, li10000, lt_nI, le_nI, eq_nI]); omega))) ?_
      refine h _ (Fr_a (s' := (_, ua _ 11 _)) (Fr_a (Fr_refl _ _ s) (by decide)) (by decide)) ?_
      rw [p2s]; exact hg
    | succ m ih =>
      intro i g hi h2 hg
      have hfl := frs_len P i
      refine br_f (by show ¬ s.1 3 ≤ _; rw [hB.1]; (first | omega | ((simp (disch := omega) only [li0, li1, li2, li3, li4, li5, li9, li11, li40, li100, li200, li8000, li10000, lt_nI, le_nI, eq_nI]); done) | ((simp (disch := omega) only [li0, li1, li2, li3, li4, li5, li9, li11, li40, li100, li200, li8000, li10000, lt_nI, le_nI, eq_nI]); omega))) (br_f (by (first | omega | ((simp (disch := omega) only [li0, li1, li2, li3, li4, li5, li9, li11, li40, li100, li200, li8000, li10000, lt_nI, le_nI, eq_nI]); done) | ((simp (disch := omega) only [li0, li1, li2, li3, li4, li5, li9, li11, li40, li100, li200, li8000, li10000, lt_nI, le_nI, eq_nI]); omega))) ?_)
      refine c_has18 (p := P) (by omega) (by show SetH (ua (ua s.2 11 f1) 12 g 11) P; rw [ua_n rfl, ua_s]; exact hf1) ?_
      cases hpi : P i with
      | true =>
        refine br_nt (by decide) ?_
        (intro v hv; subst hv)
        have e : frs P (i + 1) = frs P i := by rw [frs, if_neg (by simp [hpi])]
        rw [nI_1]
        have := ih (i + 1) g (by omega) (by omega) (by rw [e]; exact hg)
        rw [e] at this
        exact this
      | false =>
        refine br_nf rfl ?_
        refine ⟨vp_in_nI (by omega) (by omega), ?_⟩
        (intro v hv; subst hv)
        (intro v hv; subst hv)
        have e : frs P (i + 1) = frs P i ++ [i] := by rw [frs, if_pos ⟨h2, hpi⟩]
        have := ih (i + 1) (upd g (frs P i).length (nI i)) (by omega) (by omega) (by rw [e]; exact holdN_snoc hg)
        rw [e, List.length_append, List.length_singleton] at this
        show wl_SpillQueue_gatherFree_26 Q _ (m + 1) (nI (frs P i).length + 1) (nI i + 1) (s.1, ua (ua (ua s.2 11 f1) 12 g) 12 (upd (ua (ua s.2 11 f1) 12 g 12) (nI (frs P i).length).toNatClampNeg (nI i)))
        rw [ua_ua, ua_s, cl_nI (by omega), nI_1, nI_1]
        exact this
  obtain ⟨k, rfl⟩ : ∃ k, bl = k + 2 := ⟨bl - 2, by omega⟩
  refine ⟨k + 1, ?_⟩
  have := key k 2 (s.2 12) (by omega) (by omega) (fun i hi => absurd hi (by simp [frs]))
  rw [show (s.2 12) = (ua s.2 11 f1) 12 from (ua_n rfl).symm, ua_id] at this
  exact this
