/-! The class: a run is written. -/
theorem ceil_lt {count P need k : Nat} (hP : 0 < P) (hn : need = (count + (P - 1)) / P) (hk : k < need) : k * P < count := by
  have h1 : k + 1 ≤ (count + (P - 1)) / P := by omega
  have h2 := (Nat.le_div_iff_mul_le hP).mp h1
  rw [Nat.succ_mul] at h2
  omega
theorem ceil_ge {count P need : Nat} (hP : 0 < P) (hn : need = (count + (P - 1)) / P) : count ≤ need * P := by
  have h1 : (count + (P - 1)) / P < need + 1 := by omega
  have h2 := (Nat.div_lt_iff_lt_mul hP).mp h1
  rw [Nat.succ_mul] at h2
  omega
theorem here_I {count P k : Nat} (hk : k * P < count) (hc : count < 2 ^ 20) (hP : P < 2 ^ 20) : (if nI count - nI k * nI P < nI P then nI count - nI k * nI P else nI P) = nI (hereN P count k) := by
  rw [pk_mul, pk_sub (by omega)]
  have e := lt_nI (a := count - k * P) (b := P) (by omega) (by omega)
  unfold hereN
  by_cases c : count - k * P < P
  · rw [if_pos c, if_pos (by rw [e]; exact c)]
  · rw [if_neg c, if_neg (by rw [e]; exact c)]
theorem here_pos {count P k : Nat} (hk : k * P < count) (hP : 0 < P) : 1 ≤ hereN P count k ∧ hereN P count k ≤ P ∧ k * P + hereN P count k ≤ count := by
  unfold hereN
  split <;> omega
theorem here_min {count P k : Nat} (hk : k * P < count) : k * P + hereN P count k = min ((k + 1) * P) count := by
  rw [Nat.succ_mul]
  unfold hereN
  split <;> omega
theorem min_lt {count P k : Nat} (hk : k * P < count) : min (k * P) count = k * P := by omega
theorem c_keys4 {bl wd mm fn : Nat} {SC : Nat → gS → Prop} {key : Nat → Int32} {Agr : (Nat → Nat → Int32) → Prop} {count : Nat}
    (hstep : ∀ (Dc : Nat → Nat → Int32) (s : gS) (j : Nat) (Q : Int32 → gS → Prop), BC s bl wd mm fn Dc → Agr Dc → SC j s → j < count → (∀ s', Fr [7] [3, 4, 5, 7] s s' → SC (j + 1) s' → Q (key j) s') → wp_Memory_takeLeast s Q)
    (hfr : ∀ (s s' : gS) (j : Nat), Fr [5, 6] [0, 1] s s' → SC j s → SC j s')
    {Dc : Nat → Nat → Int32} (hA : Agr Dc) {base here : Nat} (hh : here ≤ wd - 2) (hw : wd ≤ 40) (hbc : base + here ≤ count) {nx : Int32} {Q : Int32 → gS → Prop} {K : Int32 → gS → Prop} {x2 x3 x4 x5 x6 : Int32} (s0 : gS)
    (h : ∀ s', Fr [7] [1, 3, 4, 5, 7] s0 s' → SC (base + here) s' → (∀ i, i < 40 → s'.2 1 i = rowOf nx (fun i => key (base + i)) here i) → K (nI here) s') :
    ∀ (m k : Nat) (s : gS), k + m = here → Fr [7] [1, 3, 4, 5, 7] s0 s → BC s bl wd mm fn Dc → SC (base + k) s → (∀ i, i < 40 → s.2 1 i = rowOf nx (fun i => key (base + i)) k i) → wl_SpillQueue_makeRun_4_106 Q K x2 x3 x4 x5 x6 (nI here) (m + 1) (nI k) s := by
  intro m
  induction m with
  | zero =>
    intro k s hk hF hB hS hr
    have : k = here := by omega
    subst this
    exact br_t (by (first | omega | ((simp (disch := omega) only [li0, li1, li2, li3, li4, li5, li9, li11, li40, li100, li200, li8000, li10000, lt_nI, le_nI, eq_nI]); done) | ((simp (disch := omega) only [li0, li1, li2, li3, li4, li5, li9, li11, li40, li100, li200, li8000, li10000, lt_nI, le_nI, eq_nI]); omega))) (h s hF hS hr)
  | succ m ih =>
    intro k s hk hF hB hS hr
    refine br_f (by (first | omega | ((simp (disch := omega) only [li0, li1, li2, li3, li4, li5, li9, li11, li40, li100, li200, li8000, li10000, lt_nI, le_nI, eq_nI]); done) | ((simp (disch := omega) only [li0, li1, li2, li3, li4, li5, li9, li11, li40, li100, li200, li8000, li10000, lt_nI, le_nI, eq_nI]); omega))) ?_
    refine hstep Dc s (base + k) _ hB hA hS (by omega) (fun s1 hF1 hS1 => ?_)
    rw [li2, nI_add]
    refine c_setRow (by omega) ?_
    (intro v hv; subst hv)
    rw [nI_1]
    have hF2 : Fr [7] [1, 3, 4, 5, 7] s (s1.1, ua s1.2 1 (upd (s1.2 1) (2 + k) (key (base + k)))) := Fr_a (Fr_mono hF1 (by decide) (by decide)) (by decide)
    refine ih (k + 1) _ (by omega) (Fr_trans hF hF2) (BC_fr hB hF2 (by decide) (by decide)) (hfr s1 _ _ (Fr_a (Fr_refl _ _ _) (by decide)) hS1) ?_
    rw [p2s]
    exact rowOf_succ (g := fun i => key (base + i)) (fun i hi => by rw [hF1.2 1 (by decide)]; exact hr i hi)
theorem c_blocks4 {bl wd mm fn : Nat} {SC : Nat → gS → Prop} {key : Nat → Int32} {Agr : (Nat → Nat → Int32) → Prop} {count : Nat}
    (hstep : ∀ (Dc : Nat → Nat → Int32) (s : gS) (j : Nat) (Q : Int32 → gS → Prop), BC s bl wd mm fn Dc → Agr Dc → SC j s → j < count → (∀ s', Fr [7] [3, 4, 5, 7] s s' → SC (j + 1) s' → Q (key j) s') → wp_Memory_takeLeast s Q)
    (hfr : ∀ (s s' : gS) (j : Nat), Fr [5, 6] [0, 1] s s' → SC j s → SC j s')
    {D0 : Nat → Nat → Int32} {fl : List Nat} {need cut : Nat} {wr : Int32} {s0 : gS} (hz : (4 ≤ bl ∧ bl ≤ 200 ∧ 11 ≤ wd ∧ wd ≤ 40 ∧ 1 ≤ mm ∧ mm ≤ 100 ∧ 2 ≤ fn ∧ fn ≤ 5)) (hneed : need = (count + (wd - 3)) / (wd - 2)) (hcb : count < 2 ^ 20) (hnl : need ≤ fl.length) (hfl : fl.length ≤ 200) (hfm : ∀ x, x ∈ fl → x < bl) (hf : HoldN (s0.2 12) fl) (hcut : cut ≤ 10000)
    (hA : ∀ k, k ≤ need → Agr (Dw wd fl need count key D0 k)) {Q : Int32 → gS → Prop} {K : Int32 → gS → Prop} {x2 : Int32}
    (hEnd : ¬ (1 ≤ cut ∧ cut ≤ need) → ∀ s, Fr [5, 6, 7] [0, 1, 3, 4, 5, 7] s0 s → BC s bl wd mm fn (Dw wd fl need count key D0 need) → s.1 6 = nI (cut - need) → s.1 5 = wr + nI need → SC count s → K (nI need) s)
    (hCut : 1 ≤ cut ∧ cut ≤ need → ∀ s, s.1 2 = 0 → BC s bl wd mm fn (Dw wd fl need count key D0 (cut - 1)) → s.1 5 = wr + nI (cut - 1) → Q (-9) s) :
    ∀ (m k : Nat) (s : gS), k + m = need → Fr [5, 6, 7] [0, 1, 3, 4, 5, 7] s0 s → BC s bl wd mm fn (Dw wd fl need count key D0 k) → s.1 6 = nI (cut - k) → (cut = 0 ∨ k < cut) → s.1 5 = wr + nI k → SC (min (k * (wd - 2)) count) s → wl_SpillQueue_makeRun_4_45 Q K x2 (nI count) (nI need) (nI (wd - 2)) (m + 1) (nI k) s := by
  have hn2 : need = (count + (wd - 2 - 1)) / (wd - 2) := by rw [hneed]; congr 1
  intro m
  induction m with
  | zero =>
    intro k s hk hF hB h6 hck h5 hS
    have : k = need := by omega
    subst this
    have hge := ceil_ge (by omega) hn2
    rw [Nat.min_eq_right hge] at hS
    exact br_t (by (first | omega | ((simp (disch := omega) only [li0, li1, li2, li3, li4, li5, li9, li11, li40, li100, li200, li8000, li10000, lt_nI, le_nI, eq_nI]); done) | ((simp (disch := omega) only [li0, li1, li2, li3, li4, li5, li9, li11, li40, li100, li200, li8000, li10000, lt_nI, le_nI, eq_nI]); omega))) (hEnd (by omega) s hF hB h6 h5 hS)
  | succ m ih =>
    intro k s hk hF hB h6 hck h5 hS
    have hlt := ceil_lt (by omega) hn2 (show k < need by omega)
    have hh := here_pos hlt (show 0 < wd - 2 by omega)
    rw [min_lt hlt] at hS
    refine br_f (by (first | omega | ((simp (disch := omega) only [li0, li1, li2, li3, li4, li5, li9, li11, li40, li100, li200, li8000, li10000, lt_nI, le_nI, eq_nI]); done) | ((simp (disch := omega) only [li0, li1, li2, li3, li4, li5, li9, li11, li40, li100, li200, li8000, li10000, lt_nI, le_nI, eq_nI]); omega))) ?_
    refine c_clearRow (fun f hf0 => ?_)
    have tail : ∀ nx : Int32, nx = nxN fl need k → ∀ sx : gS, Fr [] [1] s sx → (∀ i, i < 40 → sx.2 1 i = rowOf nx (fun i => key (k * (wd - 2) + i)) 0 i) → ∃ n24 : Nat, wl_SpillQueue_makeRun_4_106 Q (fun v26 s25 => vp_in (nI k) 200 ∧ (wp_Disk_writeRow (s25.2 12 (nI k).toNatClampNeg) s25 (fun r29 s28 => ((¬ r29 = 0 → ∀ v31 : Int32, v31 = nI (k + 1) → wl_SpillQueue_makeRun_4_45 Q K x2 (nI count) (nI need) (nI (wd - 2)) (m + 1) v31 s28) ∧ (r29 = 0 → wp_SpillQueue_powerOff s28 (fun s32 => Q (-9) s32)))))) x2 (nI count) (nI need) (nI (wd - 2)) (nI k) (nI (hereN (wd - 2) count k)) n24 0 sx := by
      intro nx hnx sx hFx hrx
      refine ⟨hereN (wd - 2) count k + 1, ?_⟩
      refine c_keys4 hstep hfr (hA k (by omega)) (base := k * (wd - 2)) (here := hereN (wd - 2) count k) (by omega) (by omega) (by omega) (nx := nx) sx (fun s1 hF1 hS1 hrow => ?_) _ 0 sx (by omega) (Fr_refl _ _ _) (BC_fr hB hFx (by decide) (by decide)) (hfr s sx _ (Fr_mono hFx (by decide) (by decide)) hS) hrx
      have hFs : Fr [7] [1, 3, 4, 5, 7] s s1 := Fr_trans (Fr_mono hFx (by decide) (by decide)) hF1
      have hB1 := BC_fr hB hFs (by decide) (by decide)
      refine ⟨vp_in_nI (by omega) (by omega), ?_⟩
      have e12 : s1.2 12 (nI k).toNatClampNeg = nI (fl.getD k 0) := by
        rw [cl_nI (by omega), hFs.2 12 (by decide), hF.2 12 (by decide)]
        exact hf k (by omega)
      rw [e12]
      refine c_writeRow hB1 (cut := cut - k) (hfm _ (getDN_mem (by omega))) ((hFs.1 6 (by decide)).trans h6) (by omega) (fun c1 => ?_) (fun c1 f1 hB2 => ?_)
      · refine br_nf rfl ?_
        refine c_off (fun f2 hf2 => hCut (by omega) _ ?_ ?_ ?_)
        · simp [up_i]
        · rw [show cut - 1 = k by omega]
          exact BC_fr hB1 (Fr_a (X := [1, 2, 6, 7, 9]) (Y := [10]) (s' := (up (up (up (up (up (up s1.1 6 0) 2 0) 1 0) 7 0) 9 0) 6 0, s1.2)) ⟨fun q hq => by simp at hq; simp [up_i, hq], fun q _ => rfl⟩ (by decide)) (by decide) (by decide)
        · show up (up (up (up (up (up s1.1 6 0) 2 0) 1 0) 7 0) 9 0) 6 0 5 = _
          simp only [up_i, Nat.reduceEqDiff, if_false]
          rw [hFs.1 5 (by decide), h5, show cut - 1 = k by omega]
      · refine br_nt (by decide) ?_
        (intro v hv; subst hv)
        have hFw : Fr [5, 6, 7] [0, 1, 3, 4, 5, 7] s1 (up (up s1.1 6 (nI (cut - k - 1))) 5 (s1.1 5 + 1), ua s1.2 0 f1) := Fr_a (s' := (up (up s1.1 6 _) 5 _, s1.2)) (Fr_u (s' := (up s1.1 6 _, s1.2)) (Fr_u (Fr_refl _ _ _) (by decide)) (by decide)) (by decide)
        refine ih (k + 1) _ (by omega) (Fr_trans hF (Fr_trans (Fr_mono hFs (by decide) (by decide)) hFw)) ?_ ?_ (by omega) ?_ ?_
        · refine BC_D hB2 (fun b i hb hi => ?_)
          rw [Dw]
          refine wrB_congr rfl (fun j hj => ?_) hi
          rw [hrow j (by omega), hnx]; rfl
        · show up (up s1.1 6 (nI (cut - k - 1))) 5 (s1.1 5 + 1) 6 = _
          rw [up_n rfl, up_s, Nat.sub_sub]
        · show up (up s1.1 6 (nI (cut - k - 1))) 5 (s1.1 5 + 1) 5 = _
          rw [up_s, hFs.1 5 (by decide), h5, Int32.add_assoc, nI_1]
        · rw [← here_min hlt]
          exact hfr s1 _ _ (Fr_a (s' := (up (up s1.1 6 _) 5 _, s1.2)) (Fr_u (s' := (up s1.1 6 _, s1.2)) (Fr_u (Fr_refl _ _ _) (by decide)) (by decide)) (by decide)) hS1
    have hFx : ∀ g, Fr [] [1] s (s.1, ua (ua s.2 1 f) 1 g) := fun g => Fr_a (s' := (s.1, ua s.2 1 f)) (Fr_a (Fr_refl _ _ _) (by decide)) (by decide)
    have hrx : ∀ nx : Int32, ∀ i, i < 40 → ((s.1, ua (ua s.2 1 f) 1 (upd (ua s.2 1 f 1) 1 nx)) : gS).2 1 i = rowOf nx (fun i => key (k * (wd - 2) + i)) 0 i := by
      intro nx i hi
      rw [p2s, rowOf_0, ua_s]
      by_cases e : i = 1
      · subst e; rw [upd_s, if_pos rfl]
      · rw [upd_n e, if_neg e]; exact hf0 i hi
    rw [nI_1]
    by_cases c : need ≤ k + 1
    · refine br_t (by (first | omega | ((simp (disch := omega) only [li0, li1, li2, li3, li4, li5, li9, li11, li40, li100, li200, li8000, li10000, lt_nI, le_nI, eq_nI]); done) | ((simp (disch := omega) only [li0, li1, li2, li3, li4, li5, li9, li11, li40, li100, li200, li8000, li10000, lt_nI, le_nI, eq_nI]); omega))) ?_
      refine c_setRow (i := 1) (by omega) ?_
      intro v17 hv17
      rw [here_I hlt hcb (by omega)] at hv17
      subst hv17
      exact tail 0 (by rw [nxN, if_neg (by omega)]) _ (hFx _) (hrx 0)
    · refine br_f (by (first | omega | ((simp (disch := omega) only [li0, li1, li2, li3, li4, li5, li9, li11, li40, li100, li200, li8000, li10000, lt_nI, le_nI, eq_nI]); done) | ((simp (disch := omega) only [li0, li1, li2, li3, li4, li5, li9, li11, li40, li100, li200, li8000, li10000, lt_nI, le_nI, eq_nI]); omega))) ?_
      refine ⟨vp_in_nI (by omega) (by omega), ?_⟩
      have e12 : ((s.1, ua s.2 1 f) : gS).2 12 (nI (k + 1)).toNatClampNeg = nI (fl.getD (k + 1) 0) := by
        rw [cl_nI (by omega), p2n rfl, hF.2 12 (by decide)]
        exact hf _ (by omega)
      rw [e12]
      refine c_setRow (i := 1) (by omega) ?_
      intro v17 hv17
      rw [here_I hlt hcb (by omega)] at hv17
      subst hv17
      exact tail _ (by rw [nxN, if_pos (by omega)]) _ (hFx _) (hrx _)
theorem c_keys6 {bl wd mm fn : Nat} {SC : Nat → gS → Prop} {key : Nat → Int32} {Agr : (Nat → Nat → Int32) → Prop} {count : Nat}
    (hstep : ∀ (Dc : Nat → Nat → Int32) (s : gS) (j : Nat) (Q : Int32 → gS → Prop), BC s bl wd mm fn Dc → Agr Dc → SC j s → j < count → (∀ s', Fr [7] [3, 4, 5, 7] s s' → SC (j + 1) s' → Q (key j) s') → wp_Runs_takeLeast s Q)
    (hfr : ∀ (s s' : gS) (j : Nat), Fr [5, 6] [0, 1] s s' → SC j s → SC j s')
    {Dc : Nat → Nat → Int32} (hA : Agr Dc) {base here : Nat} (hh : here ≤ wd - 2) (hw : wd ≤ 40) (hbc : base + here ≤ count) {nx : Int32} {Q : Int32 → gS → Prop} {K : Int32 → gS → Prop} {x2 x3 x4 x5 x6 : Int32} (s0 : gS)
    (h : ∀ s', Fr [7] [1, 3, 4, 5, 7] s0 s' → SC (base + here) s' → (∀ i, i < 40 → s'.2 1 i = rowOf nx (fun i => key (base + i)) here i) → K (nI here) s') :
    ∀ (m k : Nat) (s : gS), k + m = here → Fr [7] [1, 3, 4, 5, 7] s0 s → BC s bl wd mm fn Dc → SC (base + k) s → (∀ i, i < 40 → s.2 1 i = rowOf nx (fun i => key (base + i)) k i) → wl_SpillQueue_makeRun_6_106 Q K x2 x3 x4 x5 x6 (nI here) (m + 1) (nI k) s := by
  intro m
  induction m with
  | zero =>
    intro k s hk hF hB hS hr
    have : k = here := by omega
    subst this
    exact br_t (by (first | omega | ((simp (disch := omega) only [li0, li1, li2, li3, li4, li5, li9, li11, li40, li100, li200, li8000, li10000, lt_nI, le_nI, eq_nI]); done) | ((simp (disch := omega) only [li0, li1, li2, li3, li4, li5, li9, li11, li40, li100, li200, li8000, li10000, lt_nI, le_nI, eq_nI]); omega))) (h s hF hS hr)
  | succ m ih =>
    intro k s hk hF hB hS hr
    refine br_f (by (first | omega | ((simp (disch := omega) only [li0, li1, li2, li3, li4, li5, li9, li11, li40, li100, li200, li8000, li10000, lt_nI, le_nI, eq_nI]); done) | ((simp (disch := omega) only [li0, li1, li2, li3, li4, li5, li9, li11, li40, li100, li200, li8000, li10000, lt_nI, le_nI, eq_nI]); omega))) ?_
    refine hstep Dc s (base + k) _ hB hA hS (by omega) (fun s1 hF1 hS1 => ?_)
    rw [li2, nI_add]
    refine c_setRow (by omega) ?_
    (intro v hv; subst hv)
    rw [nI_1]
    have hF2 : Fr [7] [1, 3, 4, 5, 7] s (s1.1, ua s1.2 1 (upd (s1.2 1) (2 + k) (key (base + k)))) := Fr_a (Fr_mono hF1 (by decide) (by decide)) (by decide)
    refine ih (k + 1) _ (by omega) (Fr_trans hF hF2) (BC_fr hB hF2 (by decide) (by decide)) (hfr s1 _ _ (Fr_a (Fr_refl _ _ _) (by decide)) hS1) ?_
    rw [p2s]
    exact rowOf_succ (g := fun i => key (base + i)) (fun i hi => by rw [hF1.2 1 (by decide)]; exact hr i hi)
theorem c_blocks6 {bl wd mm fn : Nat} {SC : Nat → gS → Prop} {key : Nat → Int32} {Agr : (Nat → Nat → Int32) → Prop} {count : Nat}
    (hstep : ∀ (Dc : Nat → Nat → Int32) (s : gS) (j : Nat) (Q : Int32 → gS → Prop), BC s bl wd mm fn Dc → Agr Dc → SC j s → j < count → (∀ s', Fr [7] [3, 4, 5, 7] s s' → SC (j + 1) s' → Q (key j) s') → wp_Runs_takeLeast s Q)
    (hfr : ∀ (s s' : gS) (j : Nat), Fr [5, 6] [0, 1] s s' → SC j s → SC j s')
    {D0 : Nat → Nat → Int32} {fl : List Nat} {need cut : Nat} {wr : Int32} {s0 : gS} (hz : (4 ≤ bl ∧ bl ≤ 200 ∧ 11 ≤ wd ∧ wd ≤ 40 ∧ 1 ≤ mm ∧ mm ≤ 100 ∧ 2 ≤ fn ∧ fn ≤ 5)) (hneed : need = (count + (wd - 3)) / (wd - 2)) (hcb : count < 2 ^ 20) (hnl : need ≤ fl.length) (hfl : fl.length ≤ 200) (hfm : ∀ x, x ∈ fl → x < bl) (hf : HoldN (s0.2 12) fl) (hcut : cut ≤ 10000)
    (hA : ∀ k, k ≤ need → Agr (Dw wd fl need count key D0 k)) {Q : Int32 → gS → Prop} {K : Int32 → gS → Prop} {x2 : Int32}
    (hEnd : ¬ (1 ≤ cut ∧ cut ≤ need) → ∀ s, Fr [5, 6, 7] [0, 1, 3, 4, 5, 7] s0 s → BC s bl wd mm fn (Dw wd fl need count key D0 need) → s.1 6 = nI (cut - need) → s.1 5 = wr + nI need → SC count s → K (nI need) s)
    (hCut : 1 ≤ cut ∧ cut ≤ need → ∀ s, s.1 2 = 0 → BC s bl wd mm fn (Dw wd fl need count key D0 (cut - 1)) → s.1 5 = wr + nI (cut - 1) → Q (-9) s) :
    ∀ (m k : Nat) (s : gS), k + m = need → Fr [5, 6, 7] [0, 1, 3, 4, 5, 7] s0 s → BC s bl wd mm fn (Dw wd fl need count key D0 k) → s.1 6 = nI (cut - k) → (cut = 0 ∨ k < cut) → s.1 5 = wr + nI k → SC (min (k * (wd - 2)) count) s → wl_SpillQueue_makeRun_6_45 Q K x2 (nI count) (nI need) (nI (wd - 2)) (m + 1) (nI k) s := by
  have hn2 : need = (count + (wd - 2 - 1)) / (wd - 2) := by rw [hneed]; congr 1
  intro m
  induction m with
  | zero =>
    intro k s hk hF hB h6 hck h5 hS
    have : k = need := by omega
    subst this
    have hge := ceil_ge (by omega) hn2
    rw [Nat.min_eq_right hge] at hS
    exact br_t (by (first | omega | ((simp (disch := omega) only [li0, li1, li2, li3, li4, li5, li9, li11, li40, li100, li200, li8000, li10000, lt_nI, le_nI, eq_nI]); done) | ((simp (disch := omega) only [li0, li1, li2, li3, li4, li5, li9, li11, li40, li100, li200, li8000, li10000, lt_nI, le_nI, eq_nI]); omega))) (hEnd (by omega) s hF hB h6 h5 hS)
  | succ m ih =>
    intro k s hk hF hB h6 hck h5 hS
    have hlt := ceil_lt (by omega) hn2 (show k < need by omega)
    have hh := here_pos hlt (show 0 < wd - 2 by omega)
    rw [min_lt hlt] at hS
    refine br_f (by (first | omega | ((simp (disch := omega) only [li0, li1, li2, li3, li4, li5, li9, li11, li40, li100, li200, li8000, li10000, lt_nI, le_nI, eq_nI]); done) | ((simp (disch := omega) only [li0, li1, li2, li3, li4, li5, li9, li11, li40, li100, li200, li8000, li10000, lt_nI, le_nI, eq_nI]); omega))) ?_
    refine c_clearRow (fun f hf0 => ?_)
    have tail : ∀ nx : Int32, nx = nxN fl need k → ∀ sx : gS, Fr [] [1] s sx → (∀ i, i < 40 → sx.2 1 i = rowOf nx (fun i => key (k * (wd - 2) + i)) 0 i) → ∃ n24 : Nat, wl_SpillQueue_makeRun_6_106 Q (fun v26 s25 => vp_in (nI k) 200 ∧ (wp_Disk_writeRow (s25.2 12 (nI k).toNatClampNeg) s25 (fun r29 s28 => ((¬ r29 = 0 → ∀ v31 : Int32, v31 = nI (k + 1) → wl_SpillQueue_makeRun_6_45 Q K x2 (nI count) (nI need) (nI (wd - 2)) (m + 1) v31 s28) ∧ (r29 = 0 → wp_SpillQueue_powerOff s28 (fun s32 => Q (-9) s32)))))) x2 (nI count) (nI need) (nI (wd - 2)) (nI k) (nI (hereN (wd - 2) count k)) n24 0 sx := by
      intro nx hnx sx hFx hrx
      refine ⟨hereN (wd - 2) count k + 1, ?_⟩
      refine c_keys6 hstep hfr (hA k (by omega)) (base := k * (wd - 2)) (here := hereN (wd - 2) count k) (by omega) (by omega) (by omega) (nx := nx) sx (fun s1 hF1 hS1 hrow => ?_) _ 0 sx (by omega) (Fr_refl _ _ _) (BC_fr hB hFx (by decide) (by decide)) (hfr s sx _ (Fr_mono hFx (by decide) (by decide)) hS) hrx
      have hFs : Fr [7] [1, 3, 4, 5, 7] s s1 := Fr_trans (Fr_mono hFx (by decide) (by decide)) hF1
      have hB1 := BC_fr hB hFs (by decide) (by decide)
      refine ⟨vp_in_nI (by omega) (by omega), ?_⟩
      have e12 : s1.2 12 (nI k).toNatClampNeg = nI (fl.getD k 0) := by
        rw [cl_nI (by omega), hFs.2 12 (by decide), hF.2 12 (by decide)]
        exact hf k (by omega)
      rw [e12]
      refine c_writeRow hB1 (cut := cut - k) (hfm _ (getDN_mem (by omega))) ((hFs.1 6 (by decide)).trans h6) (by omega) (fun c1 => ?_) (fun c1 f1 hB2 => ?_)
      · refine br_nf rfl ?_
        refine c_off (fun f2 hf2 => hCut (by omega) _ ?_ ?_ ?_)
        · simp [up_i]
        · rw [show cut - 1 = k by omega]
          exact BC_fr hB1 (Fr_a (X := [1, 2, 6, 7, 9]) (Y := [10]) (s' := (up (up (up (up (up (up s1.1 6 0) 2 0) 1 0) 7 0) 9 0) 6 0, s1.2)) ⟨fun q hq => by simp at hq; simp [up_i, hq], fun q _ => rfl⟩ (by decide)) (by decide) (by decide)
        · show up (up (up (up (up (up s1.1 6 0) 2 0) 1 0) 7 0) 9 0) 6 0 5 = _
          simp only [up_i, Nat.reduceEqDiff, if_false]
          rw [hFs.1 5 (by decide), h5, show cut - 1 = k by omega]
      · refine br_nt (by decide) ?_
        (intro v hv; subst hv)
        have hFw : Fr [5, 6, 7] [0, 1, 3, 4, 5, 7] s1 (up (up s1.1 6 (nI (cut - k - 1))) 5 (s1.1 5 + 1), ua s1.2 0 f1) := Fr_a (s' := (up (up s1.1 6 _) 5 _, s1.2)) (Fr_u (s' := (up s1.1 6 _, s1.2)) (Fr_u (Fr_refl _ _ _) (by decide)) (by decide)) (by decide)
        refine ih (k + 1) _ (by omega) (Fr_trans hF (Fr_trans (Fr_mono hFs (by decide) (by decide)) hFw)) ?_ ?_ (by omega) ?_ ?_
        · refine BC_D hB2 (fun b i hb hi => ?_)
          rw [Dw]
          refine wrB_congr rfl (fun j hj => ?_) hi
          rw [hrow j (by omega), hnx]; rfl
        · show up (up s1.1 6 (nI (cut - k - 1))) 5 (s1.1 5 + 1) 6 = _
          rw [up_n rfl, up_s, Nat.sub_sub]
        · show up (up s1.1 6 (nI (cut - k - 1))) 5 (s1.1 5 + 1) 5 = _
          rw [up_s, hFs.1 5 (by decide), h5, Int32.add_assoc, nI_1]
        · rw [← here_min hlt]
          exact hfr s1 _ _ (Fr_a (s' := (up (up s1.1 6 _) 5 _, s1.2)) (Fr_u (s' := (up s1.1 6 _, s1.2)) (Fr_u (Fr_refl _ _ _) (by decide)) (by decide)) (by decide)) hS1
    have hFx : ∀ g, Fr [] [1] s (s.1, ua (ua s.2 1 f) 1 g) := fun g => Fr_a (s' := (s.1, ua s.2 1 f)) (Fr_a (Fr_refl _ _ _) (by decide)) (by decide)
    have hrx : ∀ nx : Int32, ∀ i, i < 40 → ((s.1, ua (ua s.2 1 f) 1 (upd (ua s.2 1 f 1) 1 nx)) : gS).2 1 i = rowOf nx (fun i => key (k * (wd - 2) + i)) 0 i := by
      intro nx i hi
      rw [p2s, rowOf_0, ua_s]
      by_cases e : i = 1
      · subst e; rw [upd_s, if_pos rfl]
      · rw [upd_n e, if_neg e]; exact hf0 i hi
    rw [nI_1]
    by_cases c : need ≤ k + 1
    · refine br_t (by (first | omega | ((simp (disch := omega) only [li0, li1, li2, li3, li4, li5, li9, li11, li40, li100, li200, li8000, li10000, lt_nI, le_nI, eq_nI]); done) | ((simp (disch := omega) only [li0, li1, li2, li3, li4, li5, li9, li11, li40, li100, li200, li8000, li10000, lt_nI, le_nI, eq_nI]); omega))) ?_
      refine c_setRow (i := 1) (by omega) ?_
      intro v17 hv17
      rw [here_I hlt hcb (by omega)] at hv17
      subst hv17
      exact tail 0 (by rw [nxN, if_neg (by omega)]) _ (hFx _) (hrx 0)
    · refine br_f (by (first | omega | ((simp (disch := omega) only [li0, li1, li2, li3, li4, li5, li9, li11, li40, li100, li200, li8000, li10000, lt_nI, le_nI, eq_nI]); done) | ((simp (disch := omega) only [li0, li1, li2, li3, li4, li5, li9, li11, li40, li100, li200, li8000, li10000, lt_nI, le_nI, eq_nI]); omega))) ?_
      refine ⟨vp_in_nI (by omega) (by omega), ?_⟩
      have e12 : ((s.1, ua s.2 1 f) : gS).2 12 (nI (k + 1)).toNatClampNeg = nI (fl.getD (k + 1) 0) := by
        rw [cl_nI (by omega), p2n rfl, hF.2 12 (by decide)]
        exact hf _ (by omega)
      rw [e12]
      refine c_setRow (i := 1) (by omega) ?_
      intro v17 hv17
      rw [here_I hlt hcb (by omega)] at hv17
      subst hv17
      exact tail _ (by rw [nxN, if_pos (by omega)]) _ (hFx _) (hrx _)
