/-! The class: its runs, on. -/
def sumC (ch : Nat → Bool) (cs : Nat → ARun) : Nat → Nat
  | 0 => 0
  | n + 1 => sumC ch cs n + if ch n then (cs n).2.2.1 else 0
theorem sumC_le {ch : Nat → Bool} {cs : Nat → ARun} {n : Nat} (h : ∀ i, i < n → (cs i).2.2.1 < 8000) : sumC ch cs n ≤ 8000 * n := by
  induction n with
  | zero => simp [sumC]
  | succ n ih =>
    have h1 := ih (fun i hi => h i (by omega))
    have h2 := h n (by omega)
    unfold sumC
    split <;> omega
theorem c_howMany {s : gS} {D : Nat → Nat → Int32} {n : Nat} {cs : Nat → ARun} (hR : RC s D n cs) {ch : Nat → Bool} (hc : ∀ i, i < n → s.2 8 i = bI (ch i)) {Q : Int32 → gS → Prop} (h : Q (nI (sumC ch cs n)) s) : wp_Runs_howMany s Q := by
  have h9 := hR.2.1
  have key : ∀ (m i : Nat), i + m = n → wl_Runs_howMany_4 Q (fun v11 v12 s10 => Q v11 s10) (m + 1) (nI (sumC ch cs i)) (nI i) s := by
    intro m
    induction m with
    | zero =>
      intro i hi
      have : i = n := by omega
      subst this
      exact br_t (by rw [hR.1]; (first | omega | ((simp (disch := omega) only [li0, li1, li2, li3, li4, li5, li9, li11, li40, li100, li200, li8000, li10000, lt_nI, le_nI, eq_nI]); done) | ((simp (disch := omega) only [li0, li1, li2, li3, li4, li5, li9, li11, li40, li100, li200, li8000, li10000, lt_nI, le_nI, eq_nI]); omega))) h
    | succ m ih =>
      intro i hi
      have hr := hR.2.2 i (by omega)
      have ih1 := ih (i + 1) (by omega)
      unfold sumC at ih1
      rw [wl_Runs_howMany_4, hR.1]
      refine br_f (by (first | omega | ((simp (disch := omega) only [li0, li1, li2, li3, li4, li5, li9, li11, li40, li100, li200, li8000, li10000, lt_nI, le_nI, eq_nI]); done) | ((simp (disch := omega) only [li0, li1, li2, li3, li4, li5, li9, li11, li40, li100, li200, li8000, li10000, lt_nI, le_nI, eq_nI]); omega))) ?_
      refine ⟨vp_in_nI (by omega) (by omega), ?_⟩
      rw [cl_nI (by omega), hc i (by omega), hr.1.1]
      cases hci : ch i with
      | false =>
        refine br_t rfl ?_
        (intro v hv; subst hv)
        (intro v hv; subst hv)
        rw [hci] at ih1
        rw [li0, nI_add, nI_1]
        exact ih1
      | true =>
        refine br_f (by decide) ?_
        refine ⟨vp_in_nI (by omega) (by omega), ?_⟩
        (intro v hv; subst hv)
        (intro v hv; subst hv)
        rw [hci] at ih1
        rw [nI_add, nI_1]
        exact ih1
  exact ⟨n + 1, key n 0 (by omega)⟩
theorem c_keysInAll {s : gS} {D : Nat → Nat → Int32} {n : Nat} {cs : Nat → ARun} (hR : RC s D n cs) {Q : Int32 → gS → Prop} (h : Q (nI (sumC (fun _ => true) cs n)) s) : wp_Runs_keysInAll s Q := by
  have h9 := hR.2.1
  have key : ∀ (m i : Nat), i + m = n → wl_Runs_keysInAll_4 Q (fun v7 v8 s6 => Q v7 s6) (m + 1) (nI (sumC (fun _ => true) cs i)) (nI i) s := by
    intro m
    induction m with
    | zero =>
      intro i hi
      have : i = n := by omega
      subst this
      exact br_t (by rw [hR.1]; (first | omega | ((simp (disch := omega) only [li0, li1, li2, li3, li4, li5, li9, li11, li40, li100, li200, li8000, li10000, lt_nI, le_nI, eq_nI]); done) | ((simp (disch := omega) only [li0, li1, li2, li3, li4, li5, li9, li11, li40, li100, li200, li8000, li10000, lt_nI, le_nI, eq_nI]); omega))) h
    | succ m ih =>
      intro i hi
      have hr := hR.2.2 i (by omega)
      have ih1 := ih (i + 1) (by omega)
      unfold sumC at ih1
      rw [wl_Runs_keysInAll_4, hR.1]
      refine br_f (by (first | omega | ((simp (disch := omega) only [li0, li1, li2, li3, li4, li5, li9, li11, li40, li100, li200, li8000, li10000, lt_nI, le_nI, eq_nI]); done) | ((simp (disch := omega) only [li0, li1, li2, li3, li4, li5, li9, li11, li40, li100, li200, li8000, li10000, lt_nI, le_nI, eq_nI]); omega))) ?_
      refine ⟨vp_in_nI (by omega) (by omega), ?_⟩
      rw [cl_nI (by omega), hr.1.1]
      (intro v hv; subst hv)
      (intro v hv; subst hv)
      rw [nI_add, nI_1]
      exact ih1
  exact ⟨n + 1, key n 0 (by omega)⟩
def keptL (cs : Nat → ARun) : Nat → List ARun
  | 0 => []
  | n + 1 => if 0 < (cs n).2.2.1 then keptL cs n ++ [cs n] else keptL cs n
theorem keptL_len (cs : Nat → ARun) (n : Nat) : (keptL cs n).length ≤ n := by
  induction n with
  | zero => simp [keptL]
  | succ n ih => unfold keptL; split <;> (try rw [List.length_append, List.length_singleton]) <;> omega
def getF (l : List ARun) : Nat → ARun := fun i => l.getD i dR
theorem getF_lt {l : List ARun} {x : ARun} {i : Nat} (h : i < l.length) : getF (l ++ [x]) i = getF l i := by
  simp [getF, List.getD, List.getElem?_append_left h]
theorem getF_eq {l : List ARun} {x : ARun} : getF (l ++ [x]) l.length = x := by
  simp [getF, List.getD]
theorem c_dropEmpty {s : gS} {D : Nat → Nat → Int32} {n : Nat} {cs : Nat → ARun} (hR : RC s D n cs) {Q : gS → Prop} (h : ∀ s', Fr [9] [3, 4, 5, 6, 7] s s' → RC s' D (keptL cs n).length (getF (keptL cs n)) → Q s') : wp_Runs_dropEmpty s Q := by
  have h9 := hR.2.1
  have key : ∀ (m i : Nat) (si : gS), i + m = n → Fr [] [3, 4, 5, 6, 7] s si → (∀ j, j < (keptL cs i).length → RI si D j (getF (keptL cs i) j) ∧ (getF (keptL cs i) j).2.2.1 < 8000) → (∀ j, i ≤ j → si.2 3 j = s.2 3 j ∧ si.2 4 j = s.2 4 j ∧ si.2 5 j = s.2 5 j ∧ si.2 6 j = s.2 6 j ∧ si.2 7 j = s.2 7 j) → wl_Runs_dropEmpty_4 Q (fun v24 v25 s23 => Q (up s23.1 9 (v24), s23.2)) (m + 1) (nI (keptL cs i).length) (nI i) si := by
    intro m
    induction m with
    | zero =>
      intro i si hi hF hk ho
      have : i = n := by omega
      subst this
      refine br_t (by rw [hF.1 9 (by decide), hR.1]; (first | omega | ((simp (disch := omega) only [li0, li1, li2, li3, li4, li5, li9, li11, li40, li100, li200, li8000, li10000, lt_nI, le_nI, eq_nI]); done) | ((simp (disch := omega) only [li0, li1, li2, li3, li4, li5, li9, li11, li40, li100, li200, li8000, li10000, lt_nI, le_nI, eq_nI]); omega))) ?_
      refine h _ (Fr_u (Fr_mono hF (by decide) (by decide)) (by decide)) ⟨?_, ?_, hk⟩
      · exact up_s si.1 9 (nI (keptL cs i).length)
      · have := keptL_len cs i; omega
    | succ m ih =>
      intro i si hi hF hk ho
      have hr := hR.2.2 i (by omega)
      have hkl := keptL_len cs i
      obtain ⟨o3, o4, o5, o6, o7⟩ := ho i (Nat.le_refl _)
      rw [wl_Runs_dropEmpty_4, hF.1 9 (by decide), hR.1]
      refine br_f (by (first | omega | ((simp (disch := omega) only [li0, li1, li2, li3, li4, li5, li9, li11, li40, li100, li200, li8000, li10000, lt_nI, le_nI, eq_nI]); done) | ((simp (disch := omega) only [li0, li1, li2, li3, li4, li5, li9, li11, li40, li100, li200, li8000, li10000, lt_nI, le_nI, eq_nI]); omega))) ?_
      refine ⟨vp_in_nI (by omega) (by omega), ?_⟩
      rw [cl_nI (n := i) (by omega), o5, hr.1.1]
      by_cases c0 : (cs i).2.2.1 = 0
      · refine br_t (by rw [c0]; decide) ?_
        (intro v hv; subst hv)
        rw [nI_1]
        have e : keptL cs (i + 1) = keptL cs i := by rw [keptL, if_neg (by omega)]
        rw [← e]
        exact ih (i + 1) si (by omega) hF (by rw [e]; exact hk) (fun j hj => ho j (by omega))
      · have hpos : 0 < (cs i).2.2.1 := by omega
        refine br_f (by have := hr.2; (first | omega | ((simp (disch := omega) only [li0, li1, li2, li3, li4, li5, li9, li11, li40, li100, li200, li8000, li10000, lt_nI, le_nI, eq_nI]); done) | ((simp (disch := omega) only [li0, li1, li2, li3, li4, li5, li9, li11, li40, li100, li200, li8000, li10000, lt_nI, le_nI, eq_nI]); omega))) ?_
        rw [o3, o4, o6, o7, (hr.1.2.2 hpos).1, (hr.1.2.2 hpos).2.1, (hr.1.2.2 hpos).2.2, hr.1.2.1, cl_nI (by omega)]
        refine ⟨vp_in_nI (by omega) (by omega), ?_⟩
        (intro v hv; subst hv)
        refine ⟨vp_in_nI (by omega) (by omega), ?_⟩
        refine ⟨vp_in_nI (by omega) (by omega), ?_⟩
        (intro v hv; subst hv)
        refine ⟨vp_in_nI (by omega) (by omega), ?_⟩
        refine ⟨vp_in_nI (by omega) (by omega), ?_⟩
        (intro v hv; subst hv)
        refine ⟨vp_in_nI (by omega) (by omega), ?_⟩
        refine ⟨vp_in_nI (by omega) (by omega), ?_⟩
        (intro v hv; subst hv)
        refine ⟨vp_in_nI (by omega) (by omega), ?_⟩
        refine ⟨vp_in_nI (by omega) (by omega), ?_⟩
        (intro v hv; subst hv)
        refine ⟨vp_in_nI (by omega) (by omega), ?_⟩
        (intro v hv; subst hv)
        (intro v hv; subst hv)
        rw [nI_1, nI_1]
        have e : keptL cs (i + 1) = keptL cs i ++ [cs i] := by rw [keptL, if_pos hpos]
        have el : (keptL cs i).length + 1 = (keptL cs (i + 1)).length := by rw [e]; simp
        rw [el]
        refine ih (i + 1) _ (by omega) ?_ ?_ ?_
        · exact Fr_a (s' := (_, ua (ua (ua (ua _ 3 _) 4 _) 5 _) 6 _)) (Fr_a (s' := (_, ua (ua (ua _ 3 _) 4 _) 5 _)) (Fr_a (s' := (_, ua (ua _ 3 _) 4 _)) (Fr_a (s' := (_, ua _ 3 _)) (Fr_a hF (by decide)) (by decide)) (by decide)) (by decide)) (by decide)
        · intro j hj
          rw [e] at hj ⊢
          by_cases cj : j = (keptL cs i).length
          · subst cj
            rw [getF_eq]
            refine ⟨⟨?_, ?_, fun _ => ⟨?_, ?_, ?_⟩⟩, hr.2⟩ <;> simp [ua_i, upd_s]
          · have hj2 : j < (keptL cs i).length := by simp at hj; omega
            rw [getF_lt hj2]
            have := hk j hj2
            refine ⟨?_, this.2⟩
            have h1 := this.1
            unfold RI at h1 ⊢
            simp only [ua_i, Nat.reduceEqDiff, if_true, if_false, reduceIte, upd_n cj]
            exact h1
        · intro j hj
          have := ho j (by omega)
          have cj : j ≠ (keptL cs i).length := by omega
          simp only [ua_i, Nat.reduceEqDiff, if_true, if_false, reduceIte, upd_n cj]
          exact this
  exact ⟨n + 1, key n 0 s (by omega) (Fr_refl _ _ _) (fun j hj => absurd hj (by simp [keptL])) (fun j _ => ⟨rfl, rfl, rfl, rfl, rfl⟩)⟩
theorem c_add {s : gS} {bl wd mm fn : Nat} {D : Nat → Nat → Int32} (hB : BC s bl wd mm fn D) {rs : List ARun} (hR : RC s D rs.length (getF rs)) (hn : rs.length < 9) {bs : List Nat} {b c : Nat} {l : Int32} (hf : bs.headD 0 < bl) (hb : 2 + b < wd) (hc : c < 8000) {Q : gS → Prop} (h : ∀ s', Fr [9] [3, 4, 5, 6, 7] s s' → RC s' D (rs ++ [(bs, b, c, l)]).length (getF (rs ++ [(bs, b, c, l)])) → Q s') : wp_Runs_add (nI (bs.headD 0)) (nI b) (nI c) l s Q := by
  unfold wp_Runs_add
  rw [hR.1, cl_nI (by omega), li2, nI_add]
  refine br_t (by (first | omega | ((simp (disch := omega) only [li0, li1, li2, li3, li4, li5, li9, li11, li40, li100, li200, li8000, li10000, lt_nI, le_nI, eq_nI]); done) | ((simp (disch := omega) only [li0, li1, li2, li3, li4, li5, li9, li11, li40, li100, li200, li8000, li10000, lt_nI, le_nI, eq_nI]); omega))) ?_
  refine ⟨vp_in_nI (by omega) (by omega), ?_⟩
  refine ⟨vp_in_nI (by omega) (by omega), ?_⟩
  refine ⟨vp_in_nI (by omega) (by omega), ?_⟩
  refine ⟨vp_in_nI (by omega) (by omega), ?_⟩
  have hF : ∀ f3 f4 f5 f6, Fr [9] [3, 4, 5, 6, 7] s (s.1, ua (ua (ua (ua s.2 3 f3) 4 f4) 5 f5) 6 f6) := fun f3 f4 f5 f6 => Fr_a (s' := (_, ua (ua (ua _ 3 _) 4 _) 5 _)) (Fr_a (s' := (_, ua (ua _ 3 _) 4 _)) (Fr_a (s' := (_, ua _ 3 _)) (Fr_a (Fr_refl _ _ s) (by decide)) (by decide)) (by decide)) (by decide)
  refine c_get (BC_fr hB (hF _ _ _ _) (by decide) (by decide)) hf hb ?_
  refine ⟨vp_in_nI (by omega) (by omega), ?_⟩
  (intro v hv; subst hv)
  refine h _ (Fr_u (s' := (_, ua _ 7 _)) (Fr_a (hF _ _ _ _) (by decide)) (by decide)) ⟨?_, ?_, ?_⟩
  · show up s.1 9 (s.1 9 + 1) 9 = _
    rw [up_s, hR.1, nI_1]; simp
  · simp; omega
  · intro j hj
    have hj : j < rs.length + 1 := by simpa using hj
    by_cases cj : j = rs.length
    · subst cj
      rw [getF_eq]
      refine ⟨⟨?_, ?_, fun _ => ⟨?_, ?_, ?_⟩⟩, hc⟩ <;> simp [ua_i, upd_s, aH]
    · rw [getF_lt (by omega)]
      have := hR.2.2 j (by omega)
      refine ⟨?_, this.2⟩
      have h1 := this.1
      unfold RI at h1 ⊢
      simp only [ua_i, Nat.reduceEqDiff, if_true, if_false, reduceIte, upd_n cj]
      exact h1
/-! marks -/
def mkN (cs : Nat → ARun) : Nat → Nat → Bool
  | 0, _ => false
  | n + 1, j => mkN cs n j || (cs n).1.contains j
theorem setH_congr {f : Nat → Int32} {p q : Nat → Bool} (h : SetH f p) (e : ∀ j, j < 200 → p j = q j) : SetH f q := fun j hj => by rw [h j hj, e j hj]
theorem c_mark16in {s : gS} {bl wd mm fn : Nat} {D : Nat → Nat → Int32} (hB : BC s bl wd mm fn D) {x2 : Int32} {Q : gS → Prop} {K : Int32 → Int32 → gS → Prop} (l : List Nat) : ∀ (k : Nat) (f : Nat → Int32) (p : Nat → Bool), Chained D l → (∀ x, x ∈ l → 2 ≤ x ∧ x < bl) → k + l.length ≤ 200 → SetH f p → (∀ a b f', SetH f' (fun j => p j || l.contains j) → K a b (s.1, ua s.2 10 f')) → wl_Runs_markBlocks_16_20 Q K x2 (l.length + 1) (nI (l.headD 0)) (nI k) (s.1, ua s.2 10 f) := by
  have hz := hB.2.2.2.2.1
  induction l with
  | nil =>
    intro k f p hC hx hk hp h
    have h1 := h (nI 0) (nI k) f (setH_congr hp (fun j _ => by simp))
    by_cases c : k = 200
    · exact br_t (by (first | omega | ((simp (disch := omega) only [li0, li1, li2, li3, li4, li5, li9, li11, li40, li100, li200, li8000, li10000, lt_nI, le_nI, eq_nI]); done) | ((simp (disch := omega) only [li0, li1, li2, li3, li4, li5, li9, li11, li40, li100, li200, li8000, li10000, lt_nI, le_nI, eq_nI]); omega))) h1
    · refine br_f (by simp at hk; (first | omega | ((simp (disch := omega) only [li0, li1, li2, li3, li4, li5, li9, li11, li40, li100, li200, li8000, li10000, lt_nI, le_nI, eq_nI]); done) | ((simp (disch := omega) only [li0, li1, li2, li3, li4, li5, li9, li11, li40, li100, li200, li8000, li10000, lt_nI, le_nI, eq_nI]); omega))) (br_t (by decide) h1)
  | cons x t ih =>
    intro k f p hC hx hk hp h
    obtain ⟨h1, h2⟩ := chained_cons.mp hC
    have hx0 := hx x List.mem_cons_self
    have hk' : k + t.length + 1 ≤ 200 := by simp at hk; omega
    refine br_f (by (first | omega | ((simp (disch := omega) only [li0, li1, li2, li3, li4, li5, li9, li11, li40, li100, li200, li8000, li10000, lt_nI, le_nI, eq_nI]); done) | ((simp (disch := omega) only [li0, li1, li2, li3, li4, li5, li9, li11, li40, li100, li200, li8000, li10000, lt_nI, le_nI, eq_nI]); omega))) (br_f (by show ¬ nI x < 2; (first | omega | ((simp (disch := omega) only [li0, li1, li2, li3, li4, li5, li9, li11, li40, li100, li200, li8000, li10000, lt_nI, le_nI, eq_nI]); done) | ((simp (disch := omega) only [li0, li1, li2, li3, li4, li5, li9, li11, li40, li100, li200, li8000, li10000, lt_nI, le_nI, eq_nI]); omega))) ?_)
    refine c_add16 (b := x) (by omega) ?_
    show wp_Disk_get (nI x) 1 (s.1, ua (ua s.2 10 f) 10 (upd (ua s.2 10 f 10) x 1)) _
    rw [ua_ua, ua_s]
    refine c_get (i := 1) (BC_fr hB (Fr_a (X := []) (Y := [10]) (Fr_refl _ _ s) (by decide)) (by decide) (by decide)) hx0.2 (by omega) ?_
    (intro v hv; subst hv)
    rw [nI_1, h1]
    refine ih (k + 1) (upd f x 1) (sAdd p x) h2 (fun y hy => hx y (List.mem_cons_of_mem _ hy)) (by omega) (setH_add hp x) (fun a b f' hf' => ?_)
    refine h a b f' (setH_congr hf' (fun j _ => ?_))
    simp only [sAdd, List.contains_cons, Bool.or_assoc]
theorem c_mark16 {s : gS} {bl wd mm fn : Nat} {D : Nat → Nat → Int32} (hB : BC s bl wd mm fn D) {n : Nat} {cs : Nat → ARun} (hR : RC s D n cs) (hok : ∀ i, i < n → RunOK bl wd D (cs i)) {p : Nat → Bool} (hp : SetH (s.2 10) p) {Q : gS → Prop} (h : ∀ f, SetH f (fun j => p j || mkN cs n j) → Q (s.1, ua s.2 10 f)) : wp_Runs_markBlocks_16 s Q := by
  have h9 := hR.2.1
  have key : ∀ (m i : Nat) (f : Nat → Int32), i + m = n → SetH f (fun j => p j || mkN cs i j) → wl_Runs_markBlocks_16_2 Q (fun v18 s17 => Q s17) (m + 1) (nI i) (s.1, ua s.2 10 f) := by
    intro m
    induction m with
    | zero =>
      intro i f hi hf
      have : i = n := by omega
      subst this
      exact br_t (by show s.1 9 ≤ _; rw [hR.1]; (first | omega | ((simp (disch := omega) only [li0, li1, li2, li3, li4, li5, li9, li11, li40, li100, li200, li8000, li10000, lt_nI, le_nI, eq_nI]); done) | ((simp (disch := omega) only [li0, li1, li2, li3, li4, li5, li9, li11, li40, li100, li200, li8000, li10000, lt_nI, le_nI, eq_nI]); omega))) (h f hf)
    | succ m ih =>
      intro i f hi hf
      have hr := hR.2.2 i (by omega)
      have hk := hok i (by omega)
      refine br_f (by show ¬ s.1 9 ≤ _; rw [hR.1]; (first | omega | ((simp (disch := omega) only [li0, li1, li2, li3, li4, li5, li9, li11, li40, li100, li200, li8000, li10000, lt_nI, le_nI, eq_nI]); done) | ((simp (disch := omega) only [li0, li1, li2, li3, li4, li5, li9, li11, li40, li100, li200, li8000, li10000, lt_nI, le_nI, eq_nI]); omega))) ?_
      refine ⟨vp_in_nI (by omega) (by omega), ?_⟩
      (intro v hv; subst hv)
      refine ⟨(cs i).1.length + 1, ?_⟩
      have e3 : (s.1, ua s.2 10 f).2 3 (nI i).toNatClampNeg = nI ((cs i).1.headD 0) := by
        rw [cl_nI (by omega)]
        show ua s.2 10 f 3 i = _
        rw [ua_n rfl]
        exact (hr.1.2.2 hk.2.2.1).1
      rw [e3]
      refine c_mark16in hB (cs i).1 0 f _ hk.2.2.2.2.2 hk.2.2.2.2.1 (by have := hk.2.1; omega) hf (fun a b f' hf' => ?_)
      (intro v hv; subst hv)
      rw [nI_1]
      refine ih (i + 1) f' (by omega) (setH_congr hf' (fun j _ => ?_))
      simp only [mkN, Bool.or_assoc]
  refine ⟨n + 1, ?_⟩
  have := key n 0 (s.2 10) (by omega) (setH_congr hp (fun j _ => by simp [mkN]))
  rw [ua_id] at this
  exact this
theorem c_mark18in {s : gS} {bl wd mm fn : Nat} {D : Nat → Nat → Int32} (hB : BC s bl wd mm fn D) {x2 : Int32} {Q : gS → Prop} {K : Int32 → Int32 → gS → Prop} (l : List Nat) : ∀ (k : Nat) (f : Nat → Int32) (p : Nat → Bool), Chained D l → (∀ x, x ∈ l → 2 ≤ x ∧ x < bl) → k + l.length ≤ 200 → SetH f p → (∀ a b f', SetH f' (fun j => p j || l.contains j) → K a b (s.1, ua s.2 11 f')) → wl_Runs_markBlocks_18_20 Q K x2 (l.length + 1) (nI (l.headD 0)) (nI k) (s.1, ua s.2 11 f) := by
  have hz := hB.2.2.2.2.1
  induction l with
  | nil =>
    intro k f p hC hx hk hp h
    have h1 := h (nI 0) (nI k) f (setH_congr hp (fun j _ => by simp))
    by_cases c : k = 200
    · exact br_t (by (first | omega | ((simp (disch := omega) only [li0, li1, li2, li3, li4, li5, li9, li11, li40, li100, li200, li8000, li10000, lt_nI, le_nI, eq_nI]); done) | ((simp (disch := omega) only [li0, li1, li2, li3, li4, li5, li9, li11, li40, li100, li200, li8000, li10000, lt_nI, le_nI, eq_nI]); omega))) h1
    · refine br_f (by simp at hk; (first | omega | ((simp (disch := omega) only [li0, li1, li2, li3, li4, li5, li9, li11, li40, li100, li200, li8000, li10000, lt_nI, le_nI, eq_nI]); done) | ((simp (disch := omega) only [li0, li1, li2, li3, li4, li5, li9, li11, li40, li100, li200, li8000, li10000, lt_nI, le_nI, eq_nI]); omega))) (br_t (by decide) h1)
  | cons x t ih =>
    intro k f p hC hx hk hp h
    obtain ⟨h1, h2⟩ := chained_cons.mp hC
    have hx0 := hx x List.mem_cons_self
    have hk' : k + t.length + 1 ≤ 200 := by simp at hk; omega
    refine br_f (by (first | omega | ((simp (disch := omega) only [li0, li1, li2, li3, li4, li5, li9, li11, li40, li100, li200, li8000, li10000, lt_nI, le_nI, eq_nI]); done) | ((simp (disch := omega) only [li0, li1, li2, li3, li4, li5, li9, li11, li40, li100, li200, li8000, li10000, lt_nI, le_nI, eq_nI]); omega))) (br_f (by show ¬ nI x < 2; (first | omega | ((simp (disch := omega) only [li0, li1, li2, li3, li4, li5, li9, li11, li40, li100, li200, li8000, li10000, lt_nI, le_nI, eq_nI]); done) | ((simp (disch := omega) only [li0, li1, li2, li3, li4, li5, li9, li11, li40, li100, li200, li8000, li10000, lt_nI, le_nI, eq_nI]); omega))) ?_)
    refine c_add18 (b := x) (by omega) ?_
    show wp_Disk_get (nI x) 1 (s.1, ua (ua s.2 11 f) 11 (upd (ua s.2 11 f 11) x 1)) _
    rw [ua_ua, ua_s]
    refine c_get (i := 1) (BC_fr hB (Fr_a (X := []) (Y := [11]) (Fr_refl _ _ s) (by decide)) (by decide) (by decide)) hx0.2 (by omega) ?_
    (intro v hv; subst hv)
    rw [nI_1, h1]
    refine ih (k + 1) (upd f x 1) (sAdd p x) h2 (fun y hy => hx y (List.mem_cons_of_mem _ hy)) (by omega) (setH_add hp x) (fun a b f' hf' => ?_)
    refine h a b f' (setH_congr hf' (fun j _ => ?_))
    simp only [sAdd, List.contains_cons, Bool.or_assoc]
theorem c_mark18 {s : gS} {bl wd mm fn : Nat} {D : Nat → Nat → Int32} (hB : BC s bl wd mm fn D) {n : Nat} {cs : Nat → ARun} (hR : RC s D n cs) (hok : ∀ i, i < n → RunOK bl wd D (cs i)) {p : Nat → Bool} (hp : SetH (s.2 11) p) {Q : gS → Prop} (h : ∀ f, SetH f (fun j => p j || mkN cs n j) → Q (s.1, ua s.2 11 f)) : wp_Runs_markBlocks_18 s Q := by
  have h9 := hR.2.1
  have key : ∀ (m i : Nat) (f : Nat → Int32), i + m = n → SetH f (fun j => p j || mkN cs i j) → wl_Runs_markBlocks_18_2 Q (fun v18 s17 => Q s17) (m + 1) (nI i) (s.1, ua s.2 11 f) := by
    intro m
    induction m with
    | zero =>
      intro i f hi hf
      have : i = n := by omega
      subst this
      exact br_t (by show s.1 9 ≤ _; rw [hR.1]; (first | omega | ((simp (disch := omega) only [li0, li1, li2, li3, li4, li5, li9, li11, li40, li100, li200, li8000, li10000, lt_nI, le_nI, eq_nI]); done) | ((simp (disch := omega) only [li0, li1, li2, li3, li4, li5, li9, li11, li40, li100, li200, li8000, li10000, lt_nI, le_nI, eq_nI]); omega))) (h f hf)
    | succ m ih =>
      intro i f hi hf
      have hr := hR.2.2 i (by omega)
      have hk := hok i (by omega)
      refine br_f (by show ¬ s.1 9 ≤ _; rw [hR.1]; (first | omega | ((simp (disch := omega) only [li0, li1, li2, li3, li4, li5, li9, li11, li40, li100, li200, li8000, li10000, lt_nI, le_nI, eq_nI]); done) | ((simp (disch := omega) only [li0, li1, li2, li3, li4, li5, li9, li11, li40, li100, li200, li8000, li10000, lt_nI, le_nI, eq_nI]); omega))) ?_
      refine ⟨vp_in_nI (by omega) (by omega), ?_⟩
      (intro v hv; subst hv)
      refine ⟨(cs i).1.length + 1, ?_⟩
      have e3 : (s.1, ua s.2 11 f).2 3 (nI i).toNatClampNeg = nI ((cs i).1.headD 0) := by
        rw [cl_nI (by omega)]
        show ua s.2 11 f 3 i = _
        rw [ua_n rfl]
        exact (hr.1.2.2 hk.2.2.1).1
      rw [e3]
      refine c_mark18in hB (cs i).1 0 f _ hk.2.2.2.2.2 hk.2.2.2.2.1 (by have := hk.2.1; omega) hf (fun a b f' hf' => ?_)
      (intro v hv; subst hv)
      rw [nI_1]
      refine ih (i + 1) f' (by omega) (setH_congr hf' (fun j _ => ?_))
      simp only [mkN, Bool.or_assoc]
  refine ⟨n + 1, ?_⟩
  have := key n 0 (s.2 11) (by omega) (setH_congr hp (fun j _ => by simp [mkN]))
  rw [ua_id] at this
  exact this
