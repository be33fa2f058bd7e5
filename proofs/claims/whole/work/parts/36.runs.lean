/-! The class: its runs. -/
def dR : ARun := ([], 0, 0, 0)
def RI (s : gS) (D : Nat → Nat → Int32) (i : Nat) (r : ARun) : Prop := s.2 5 i = nI r.2.2.1 ∧ s.2 6 i = r.2.2.2 ∧ (0 < r.2.2.1 → s.2 3 i = nI (r.1.headD 0) ∧ s.2 4 i = nI r.2.1 ∧ s.2 7 i = aH D r)
def RC (s : gS) (D : Nat → Nat → Int32) (n : Nat) (cs : Nat → ARun) : Prop := s.1 9 = nI n ∧ n ≤ 9 ∧ ∀ i, i < n → RI s D i (cs i) ∧ (cs i).2.2.1 < 8000
def updR (cs : Nat → ARun) (i : Nat) (r : ARun) : Nat → ARun := fun j => if j = i then r else cs j
theorem updR_s (cs : Nat → ARun) (i : Nat) (r : ARun) : updR cs i r i = r := by simp [updR]
theorem updR_n {cs : Nat → ARun} {i j : Nat} {r : ARun} (h : j ≠ i) : updR cs i r j = cs j := by simp [updR, h]
theorem RC_fr {s s' : gS} {D : Nat → Nat → Int32} {n : Nat} {cs : Nat → ARun} (hR : RC s D n cs) {X Y : List Nat} (h : Fr X Y s s') (h0 : 9 ∉ X) (h1 : 3 ∉ Y ∧ 4 ∉ Y ∧ 5 ∉ Y ∧ 6 ∉ Y ∧ 7 ∉ Y) : RC s' D n cs := by
  refine ⟨(h.1 9 h0).trans hR.1, hR.2.1, fun i hi => ?_⟩
  have := hR.2.2 i hi
  refine ⟨?_, this.2⟩
  unfold RI
  rw [h.2 3 h1.1, h.2 4 h1.2.1, h.2 5 h1.2.2.1, h.2 6 h1.2.2.2.1, h.2 7 h1.2.2.2.2]
  exact this.1
theorem RC_upd {s s' : gS} {D : Nat → Nat → Int32} {n i : Nat} {cs : Nat → ARun} {r : ARun} (hR : RC s D n cs) (h9 : s'.1 9 = s.1 9) (ho : ∀ j, j ≠ i → s'.2 3 j = s.2 3 j ∧ s'.2 4 j = s.2 4 j ∧ s'.2 5 j = s.2 5 j ∧ s'.2 6 j = s.2 6 j ∧ s'.2 7 j = s.2 7 j) (hi : RI s' D i r) (hc : r.2.2.1 < 8000) : RC s' D n (updR cs i r) := by
  refine ⟨h9.trans hR.1, hR.2.1, fun j hj => ?_⟩
  by_cases e : j = i
  · subst e; rw [updR_s]; exact ⟨hi, hc⟩
  · rw [updR_n e]
    obtain ⟨o3, o4, o5, o6, o7⟩ := ho j e
    have := hR.2.2 j hj
    refine ⟨?_, this.2⟩
    unfold RI
    rw [o3, o4, o5, o6, o7]
    exact this.1
theorem pick_skip {el : Nat → Bool} {key : Nat → Int32} {n : Nat} (h : el n = false) : pick el key (n + 1) = pick el key n := by
  simp only [pick]
  cases pick el key n <;> simp [h]
theorem pick_new {el : Nat → Bool} {key : Nat → Int32} {n : Nat} (h : el n = true) (hp : pick el key n = none) : pick el key (n + 1) = some n := by
  simp only [pick, hp, h, if_true]
theorem pick_keep {el : Nat → Bool} {key : Nat → Int32} {n j : Nat} (h : el n = true) (hp : pick el key n = some j) (hk : key j ≤ key n) : pick el key (n + 1) = some j := by
  simp only [pick, hp, h, if_true, hk]
theorem pick_swap {el : Nat → Bool} {key : Nat → Int32} {n j : Nat} (h : el n = true) (hp : pick el key n = some j) (hk : ¬ key j ≤ key n) : pick el key (n + 1) = some n := by
  simp only [pick, hp, h, if_true, hk, if_false]
def elC (s : gS) (x1 : Int32) (cs : Nat → ARun) (i : Nat) : Bool := decide (0 < (cs i).2.2.1) && (decide (¬ s.2 8 i = 0) || decide (x1 = 0))
theorem c_leastAt {s : gS} {D : Nat → Nat → Int32} {n : Nat} {cs : Nat → ARun} (hR : RC s D n cs) {x1 : Int32} {Q : Int32 → gS → Prop} (h : Q (oI (pick (elC s x1 cs) (fun i => aH D (cs i)) n)) s) : wp_Runs_leastAt x1 s Q := by
  have key : ∀ (m i : Nat), i + m = n → wl_Runs_leastAt_4 Q (fun v25 v26 s24 => Q v25 s24) x1 (m + 1) (oI (pick (elC s x1 cs) (fun i => aH D (cs i)) i)) (nI i) s := by
    have h9 := hR.2.1
    intro m
    induction m with
    | zero =>
      intro i hi
      have : i = n := by omega
      subst this
      exact br_t (by rw [hR.1]; (first | omega | ((simp (disch := omega) only [li0, li1, li2, li3, li4, li5, li9, li11, li40, li100, li200, li8000, li10000, lt_nI, le_nI, eq_nI]); done) | ((simp (disch := omega) only [li0, li1, li2, li3, li4, li5, li9, li11, li40, li100, li200, li8000, li10000, lt_nI, le_nI, eq_nI]); omega))) h
    | succ m ih =>
      intro i hi
      have hr := hR.2.2 i (by omega)
      have fin : elC s x1 cs i = true → ((oI (pick (elC s x1 cs) (fun i => aH D (cs i)) i) < 0 → ∀ v8 : Int32, v8 = nI i + 1 → wl_Runs_leastAt_4 Q (fun v25 v26 s24 => Q v25 s24) x1 (m + 1) (nI i) v8 s) ∧ (¬ oI (pick (elC s x1 cs) (fun i => aH D (cs i)) i) < 0 → vp_in (nI i) 9 ∧ (vp_in (oI (pick (elC s x1 cs) (fun i => aH D (cs i)) i)) 9 ∧ ((((s.2 7 (oI (pick (elC s x1 cs) (fun i => aH D (cs i)) i)).toNatClampNeg) ≤ (s.2 7 i) → ∀ v12 : Int32, v12 = nI i + 1 → wl_Runs_leastAt_4 Q (fun v25 v26 s24 => Q v25 s24) x1 (m + 1) (oI (pick (elC s x1 cs) (fun i => aH D (cs i)) i)) v12 s) ∧ (¬ (s.2 7 (oI (pick (elC s x1 cs) (fun i => aH D (cs i)) i)).toNatClampNeg) ≤ (s.2 7 i) → ∀ v13 : Int32, v13 = nI i + 1 → wl_Runs_leastAt_4 Q (fun v25 v26 s24 => Q v25 s24) x1 (m + 1) (nI i) v13 s)))))) := by
        intro he
        have hci : 0 < (cs i).2.2.1 := by
          have := he
          simp only [elC, Bool.and_eq_true, decide_eq_true_eq] at this
          exact this.1
        have ih1 := ih (i + 1) (by omega)
        cases hp : pick (elC s x1 cs) (fun i => aH D (cs i)) i with
        | none =>
          refine br_t oI_neg ?_
          (intro v hv; subst hv)
          rw [nI_1]
          rw [pick_new he hp] at ih1
          exact ih1
        | some j =>
          have hj := pick_lt hp
          have hcj : 0 < (cs j).2.2.1 := by
            have := hj.2
            simp only [elC, Bool.and_eq_true, decide_eq_true_eq] at this
            exact this.1
          have hrj := hR.2.2 j (by omega)
          refine br_f (oI_pos (by omega)) ?_
          refine ⟨vp_in_nI (by omega) (by omega), ?_⟩
          refine ⟨vp_in_nI (n := j) (by omega) (by omega), ?_⟩
          show ((((s.2 7 (nI j).toNatClampNeg) ≤ (s.2 7 i) → _) ∧ (¬ (s.2 7 (nI j).toNatClampNeg) ≤ (s.2 7 i) → _)))
          rw [cl_nI (by omega), (hrj.1.2.2 hcj).2.2, (hr.1.2.2 hci).2.2]
          refine ⟨fun q => ?_, fun q => ?_⟩
          · (intro v hv; subst hv)
            rw [nI_1]
            rw [pick_keep he hp q] at ih1
            exact ih1
          · (intro v hv; subst hv)
            rw [nI_1]
            rw [pick_swap he hp q] at ih1
            exact ih1
      rw [wl_Runs_leastAt_4, hR.1]
      refine br_f (by (first | omega | ((simp (disch := omega) only [li0, li1, li2, li3, li4, li5, li9, li11, li40, li100, li200, li8000, li10000, lt_nI, le_nI, eq_nI]); done) | ((simp (disch := omega) only [li0, li1, li2, li3, li4, li5, li9, li11, li40, li100, li200, li8000, li10000, lt_nI, le_nI, eq_nI]); omega))) ?_
      refine ⟨vp_in_nI (by omega) (by omega), ?_⟩
      rw [cl_nI (by omega), hr.1.1]
      by_cases c0 : (cs i).2.2.1 = 0
      · rw [c0]
        refine br_t (by decide) ?_
        (intro v hv; subst hv)
        rw [nI_1, ← pick_skip (n := i) (by simp [elC, c0])]
        exact ih (i + 1) (by omega)
      · refine br_f (by have := hr.2; (first | omega | ((simp (disch := omega) only [li0, li1, li2, li3, li4, li5, li9, li11, li40, li100, li200, li8000, li10000, lt_nI, le_nI, eq_nI]); done) | ((simp (disch := omega) only [li0, li1, li2, li3, li4, li5, li9, li11, li40, li100, li200, li8000, li10000, lt_nI, le_nI, eq_nI]); omega))) ?_
        refine ⟨vp_in_nI (by omega) (by omega), ?_⟩
        by_cases c8 : s.2 8 i = 0
        · refine br_nf c8 ?_
          by_cases cx : x1 = 0
          · exact br_nf cx (fin (by simp [elC, cx]; omega))
          · refine br_nt cx ?_
            (intro v hv; subst hv)
            rw [nI_1, ← pick_skip (n := i) (by simp [elC, c8, cx])]
            exact ih (i + 1) (by omega)
        · exact br_nt c8 (fin (by simp [elC, c8]; omega))
  exact ⟨n + 1, key n 0 (by omega)⟩
theorem c_rhas {s : gS} {D : Nat → Nat → Int32} {n : Nat} {cs : Nat → ARun} (hR : RC s D n cs) {i : Nat} (hi : i < n) {Q : Int32 → gS → Prop} (h : Q 1 s) : wp_Runs_has (nI i) s Q := by
  have := hR.2.1
  unfold wp_Runs_has
  rw [hR.1]
  exact br_f (nI_pos (by omega)) (br_f (by (first | omega | ((simp (disch := omega) only [li0, li1, li2, li3, li4, li5, li9, li11, li40, li100, li200, li8000, li10000, lt_nI, le_nI, eq_nI]); done) | ((simp (disch := omega) only [li0, li1, li2, li3, li4, li5, li9, li11, li40, li100, li200, li8000, li10000, lt_nI, le_nI, eq_nI]); omega))) h)
theorem c_rheadOf {s : gS} {D : Nat → Nat → Int32} {n : Nat} {cs : Nat → ARun} (hR : RC s D n cs) {i : Nat} (hi : i < n) (hc : 0 < (cs i).2.2.1) {Q : Int32 → gS → Prop} (h : Q (aH D (cs i)) s) : wp_Runs_headOf (nI i) s Q := by
  have := hR.2.1
  refine c_rhas hR hi (br_f (by decide) ?_)
  refine ⟨vp_in_nI (by omega) (by omega), ?_⟩
  rw [cl_nI (by omega), ((hR.2.2 i hi).1.2.2 hc).2.2]
  exact h
theorem c_getv {s : gS} {bl wd mm fn : Nat} {D : Nat → Nat → Int32} (hB : BC s bl wd mm fn D) {b i : Nat} (hb : b < bl) (hi : i < 2 ^ 20) {Q : Int32 → gS → Prop} (h : Q (if i < wd then D b i else 0) s) : wp_Disk_get (nI b) (nI i) s Q := by
  by_cases c : i < wd
  · rw [if_pos c] at h; exact c_get hB hb c h
  · rw [if_neg c] at h
    obtain ⟨h3, h4, -, -, ⟨z1, z2, z3, z4, -⟩, hD⟩ := hB
    unfold wp_Disk_get
    rw [h3, h4]
    exact br_f (nI_pos (by omega)) (br_f (by (first | omega | ((simp (disch := omega) only [li0, li1, li2, li3, li4, li5, li9, li11, li40, li100, li200, li8000, li10000, lt_nI, le_nI, eq_nI]); done) | ((simp (disch := omega) only [li0, li1, li2, li3, li4, li5, li9, li11, li40, li100, li200, li8000, li10000, lt_nI, le_nI, eq_nI]); omega))) (br_f (nI_pos (by omega)) (br_f (by (first | omega | ((simp (disch := omega) only [li0, li1, li2, li3, li4, li5, li9, li11, li40, li100, li200, li8000, li10000, lt_nI, le_nI, eq_nI]); done) | ((simp (disch := omega) only [li0, li1, li2, li3, li4, li5, li9, li11, li40, li100, li200, li8000, li10000, lt_nI, le_nI, eq_nI]); omega))) h)))
/-- a run after its least key was taken -/
def adv (wd : Nat) (r : ARun) : ARun := if 1 < r.2.2.1 ∧ wd - 2 ≤ r.2.1 + 1 then (r.1.tail, 0, r.2.2.1 - 1, r.2.2.2) else (r.1, r.2.1 + 1, r.2.2.1 - 1, r.2.2.2)
theorem chained_cons {D : Nat → Nat → Int32} {x : Nat} {t : List Nat} : Chained D (x :: t) ↔ D x 1 = nI (t.headD 0) ∧ Chained D t := by
  cases t with
  | nil => simp [Chained]; rfl
  | cons y t => simp [Chained]
theorem runOK_cnt {bl wd : Nat} {D : Nat → Nat → Int32} {r : ARun} (hw : 11 ≤ wd ∧ wd ≤ 40) (h : RunOK bl wd D r) : r.2.2.1 ≤ 7600 ∧ r.2.1 + r.2.2.1 ≤ 7600 ∧ 1 ≤ r.1.length := by
  obtain ⟨h1, h2, h3, h4, -⟩ := h
  have h5 : (r.2.1 + r.2.2.1 + (wd - 3)) / (wd - 2) < 201 := by omega
  have h6 := (Nat.div_lt_iff_lt_mul (by omega : 0 < wd - 2)).mp h5
  have h7 : 201 * (wd - 2) ≤ 200 * 38 + (wd - 2) := by omega
  have h8 : 0 < (r.2.1 + r.2.2.1 + (wd - 3)) / (wd - 2) := Nat.div_pos (by omega) (by omega)
  omega
theorem runOK_len1 {bl wd : Nat} {D : Nat → Nat → Int32} {r : ARun} (hw : 11 ≤ wd ∧ wd ≤ 40) (h : RunOK bl wd D r) (hc : 1 < r.2.2.1) (hb : wd - 2 ≤ r.2.1 + 1) : 2 ≤ r.1.length := by
  obtain ⟨h1, h2, h3, h4, -⟩ := h
  rw [h1]
  exact (Nat.le_div_iff_mul_le (by omega : 0 < wd - 2)).mpr (by omega)
theorem runOK_adv {bl wd : Nat} {D : Nat → Nat → Int32} {r : ARun} (hw : 11 ≤ wd ∧ wd ≤ 40) (h : RunOK bl wd D r) (hc : 1 < r.2.2.1) : RunOK bl wd D (adv wd r) := by
  obtain ⟨bs, b, c, l⟩ := r
  have hc : 1 < c := hc
  unfold adv
  by_cases q : 1 < c ∧ wd - 2 ≤ b + 1
  · rw [if_pos q]
    have hl := runOK_len1 hw h hc q.2
    obtain ⟨h1, h2, h3, h4, h5, h6⟩ := h
    have h4 : b < wd - 2 := h4
    have h1 : bs.length = (b + c + (wd - 3)) / (wd - 2) := h1
    have hl : 2 ≤ bs.length := hl
    cases bs with
    | nil => simp at hl
    | cons x t =>
      refine ⟨?_, ?_, ?_, ?_, fun y hy => h5 y (List.mem_cons_of_mem _ hy), (chained_cons.mp h6).2⟩
      · show t.length = (0 + (c - 1) + (wd - 3)) / (wd - 2)
        have : b + c + (wd - 3) = (0 + (c - 1) + (wd - 3)) + (wd - 2) := by omega
        rw [this, Nat.add_div_right _ (by omega)] at h1
        simpa using h1
      · have : (x :: t).length ≤ 200 := h2
        show t.length ≤ 200
        simp at this; omega
      · show 1 ≤ c - 1; omega
      · show 0 < wd - 2; omega
  · rw [if_neg q]
    obtain ⟨h1, h2, h3, h4, h5, h6⟩ := h
    have h1 : bs.length = (b + c + (wd - 3)) / (wd - 2) := h1
    refine ⟨?_, h2, ?_, ?_, h5, h6⟩
    · show bs.length = (b + 1 + (c - 1) + (wd - 3)) / (wd - 2)
      rw [h1, show b + 1 + (c - 1) + (wd - 3) = b + c + (wd - 3) by omega]
    · show 1 ≤ c - 1; omega
    · show b + 1 < wd - 2
      omega
theorem c_takeFrom {s : gS} {bl wd mm fn : Nat} {D : Nat → Nat → Int32} (hB : BC s bl wd mm fn D) {n : Nat} {cs : Nat → ARun} (hR : RC s D n cs) {i : Nat} (hi : i < n) (hc : 0 < (cs i).2.2.1) (hok : RunOK bl wd D (cs i)) {Q : Int32 → gS → Prop} (h : ∀ s', Fr [] [3, 4, 5, 7] s s' → RC s' D n (updR cs i (adv wd (cs i))) → Q (aH D (cs i)) s') : wp_Runs_takeFrom (nI i) s Q := by
  have h9 := hR.2.1
  have hz := hB.2.2.2.2.1
  have hr := (hR.2.2 i hi).1
  have hk := runOK_cnt ⟨by omega, by omega⟩ hok
  refine c_rhas hR hi (br_nt (by decide) ?_)
  rw [cl_nI (by omega), (hr.2.2 hc).2.2, (hr.2.2 hc).2.1, (hr.2.2 hc).1, hr.1]
  refine ⟨vp_in_nI (by omega) (by omega), ?_⟩
  (intro v hv; subst hv)
  refine ⟨vp_in_nI (by omega) (by omega), ?_⟩
  (intro v hv; subst hv)
  refine ⟨vp_in_nI (by omega) (by omega), ?_⟩
  refine ⟨vp_in_nI (by omega) (by omega), ?_⟩
  (intro v hv; subst hv)
  refine ⟨vp_in_nI (by omega) (by omega), ?_⟩
  refine ⟨vp_in_nI (by omega) (by omega), ?_⟩
  have e1 : nI (cs i).2.2.1 - 1 = nI ((cs i).2.2.1 - 1) := pk_sub (a := (cs i).2.2.1) (b := 1) (by omega)
  rw [upd_s, upd_s, e1, nI_1, show (2 : Int32) = nI 2 from rfl, nI_add]
  have hF : Fr [] [3, 4, 5, 7] s (s.1, ua (ua s.2 4 (upd (s.2 4) i (nI ((cs i).2.1 + 1)))) 5 (upd (s.2 5) i (nI ((cs i).2.2.1 - 1)))) := Fr_a (s' := (s.1, ua s.2 4 (upd (s.2 4) i (nI ((cs i).2.1 + 1))))) (Fr_a (Fr_refl _ _ s) (by decide)) (by decide)
  have hB1 := BC_fr hB hF (by decide) (by decide)
  have hd : (cs i).1.headD 0 < bl := by
    cases e : (cs i).1 with
    | nil => rw [e] at hk; simp at hk
    | cons x t => exact (hok.2.2.2.2.1 x (by rw [e]; exact List.mem_cons_self)).2
  by_cases c1 : (cs i).2.2.1 = 1
  · refine br_t (by rw [c1]; decide) ?_
    refine ⟨vp_in_nI (by omega) (by omega), ?_⟩
    refine ⟨vp_in_nI (by omega) (by omega), ?_⟩
    refine c_getv hB1 hd (by omega) ?_
    refine ⟨vp_in_nI (by omega) (by omega), ?_⟩
    refine h _ (Fr_a hF (by decide)) ?_
    have ea : adv wd (cs i) = ((cs i).1, (cs i).2.1 + 1, 0, (cs i).2.2.2) := by
      unfold adv; rw [if_neg (by omega), c1]
    rw [ea]
    refine RC_upd hR rfl (fun j hj => ?_) ⟨?_, ?_, fun q => absurd q (by simp)⟩ (by simp)
    · simp [ua_i, upd_n hj]
    · simp [ua_i, upd_s, c1]
    · simp [ua_i]; exact hr.2.1
  · refine br_f (by (first | omega | ((simp (disch := omega) only [li0, li1, li2, li3, li4, li5, li9, li11, li40, li100, li200, li8000, li10000, lt_nI, le_nI, eq_nI]); done) | ((simp (disch := omega) only [li0, li1, li2, li3, li4, li5, li9, li11, li40, li100, li200, li8000, li10000, lt_nI, le_nI, eq_nI]); omega))) ?_
    refine ⟨vp_in_nI (by omega) (by omega), ?_⟩
    refine c_per hB1 ?_
    by_cases c2 : wd - 2 ≤ (cs i).2.1 + 1
    · refine br_f (by (first | omega | ((simp (disch := omega) only [li0, li1, li2, li3, li4, li5, li9, li11, li40, li100, li200, li8000, li10000, lt_nI, le_nI, eq_nI]); done) | ((simp (disch := omega) only [li0, li1, li2, li3, li4, li5, li9, li11, li40, li100, li200, li8000, li10000, lt_nI, le_nI, eq_nI]); omega))) ?_
      refine ⟨vp_in_nI (by omega) (by omega), ?_⟩
      have hl := runOK_len1 ⟨by omega, by omega⟩ hok (by omega) c2
      have ea : adv wd (cs i) = ((cs i).1.tail, 0, (cs i).2.2.1 - 1, (cs i).2.2.2) := by
        unfold adv; rw [if_pos ⟨by omega, c2⟩]
      have e3 : (s.1, ua (ua s.2 4 (upd (s.2 4) i (nI ((cs i).2.1 + 1)))) 5 (upd (s.2 5) i (nI ((cs i).2.2.1 - 1)))).2 3 i = nI ((cs i).1.headD 0) := by
        simp [ua_i, -List.headD_eq_head?_getD]; exact (hr.2.2 hc).1
      rw [e3]
      refine c_get hB1 hd (i := 1) (by omega) ?_
      refine ⟨vp_in_nI (by omega) (by omega), ?_⟩
      refine ⟨vp_in_nI (by omega) (by omega), ?_⟩
      refine ⟨vp_in_nI (by omega) (by omega), ?_⟩
      refine ⟨vp_in_nI (by omega) (by omega), ?_⟩
      have hn : D ((cs i).1.headD 0) 1 = nI ((cs i).1.tail.headD 0) ∧ (cs i).1.tail.headD 0 < bl := by
        cases e : (cs i).1 with
        | nil => rw [e] at hk; simp at hk
        | cons x t =>
          have := hok.2.2.2.2.2
          rw [e] at this
          refine ⟨(chained_cons.mp this).1, ?_⟩
          cases et : t with
          | nil => rw [e, et] at hl; simp at hl
          | cons y u => exact (hok.2.2.2.2.1 y (by rw [e, et]; simp)).2
      rw [upd_s, upd_s, hn.1, show (0 : Int32) = nI 0 from rfl, nI_add]
      refine c_get (BC_fr hB (Fr_a (s' := (_, ua _ 3 _)) (Fr_a hF (by decide)) (by decide)) (by decide) (by decide)) hn.2 (i := 2 + 0) (by omega) ?_
      refine ⟨vp_in_nI (by omega) (by omega), ?_⟩
      refine h _ (Fr_a (s' := (_, ua (ua _ 3 _) 4 _)) (Fr_a (s' := (_, ua _ 3 _)) (Fr_a hF (by decide)) (by decide)) (by decide)) ?_
      rw [ea]
      refine RC_upd hR rfl (fun j hj => ?_) ⟨?_, ?_, fun q => ⟨?_, ?_, ?_⟩⟩ (by show (cs i).2.2.1 - 1 < 8000; omega)
      · simp [ua_i, upd_n hj]
      · simp [ua_i, upd_s]
      · simp [ua_i]; exact hr.2.1
      · simp [ua_i, upd_s]
      · simp [ua_i, upd_s]
      · simp [ua_i, upd_s, aH]
    · refine br_t (by (first | omega | ((simp (disch := omega) only [li0, li1, li2, li3, li4, li5, li9, li11, li40, li100, li200, li8000, li10000, lt_nI, le_nI, eq_nI]); done) | ((simp (disch := omega) only [li0, li1, li2, li3, li4, li5, li9, li11, li40, li100, li200, li8000, li10000, lt_nI, le_nI, eq_nI]); omega))) ?_
      refine ⟨vp_in_nI (by omega) (by omega), ?_⟩
      refine ⟨vp_in_nI (by omega) (by omega), ?_⟩
      have ea : adv wd (cs i) = ((cs i).1, (cs i).2.1 + 1, (cs i).2.2.1 - 1, (cs i).2.2.2) := by
        unfold adv; rw [if_neg (by omega)]
      have e3 : (s.1, ua (ua s.2 4 (upd (s.2 4) i (nI ((cs i).2.1 + 1)))) 5 (upd (s.2 5) i (nI ((cs i).2.2.1 - 1)))).2 3 i = nI ((cs i).1.headD 0) := by
        simp [ua_i, -List.headD_eq_head?_getD]; exact (hr.2.2 hc).1
      have e4 : (s.1, ua (ua s.2 4 (upd (s.2 4) i (nI ((cs i).2.1 + 1)))) 5 (upd (s.2 5) i (nI ((cs i).2.2.1 - 1)))).2 4 i = nI ((cs i).2.1 + 1) := by
        simp [ua_i, upd_s]
      rw [e3, e4, nI_add]
      refine c_get hB1 hd (i := 2 + ((cs i).2.1 + 1)) (by omega) ?_
      refine ⟨vp_in_nI (by omega) (by omega), ?_⟩
      refine h _ (Fr_a hF (by decide)) ?_
      rw [ea]
      refine RC_upd hR rfl (fun j hj => ?_) ⟨?_, ?_, fun q => ⟨?_, ?_, ?_⟩⟩ (by show (cs i).2.2.1 - 1 < 8000; omega)
      · simp [ua_i, upd_n hj]
      · simp [ua_i, upd_s]
      · simp [ua_i]; exact hr.2.1
      · simp [ua_i, -List.headD_eq_head?_getD]; exact (hr.2.2 hc).1
      · simp [ua_i, upd_s]
      · simp [ua_i, upd_s, aH]
