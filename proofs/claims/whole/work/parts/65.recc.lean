/-! Recovery: the class. -/
theorem c_rising {s : gS} {bl wd mm fn : Nat} {D : Nat → Nat → Int32} (hB : BC s bl wd mm fn D) {b : Nat} (hb : b < bl) {Q : Int32 → gS → Prop} {to : Nat} (hto : to ≤ wd - 2) {x2 x4 : Int32} : ∀ (m pl : Nat) (last : Int32), pl + m = to → (∀ v, rise D b m pl last = some v → Q v s) → (rise D b m pl last = none → Q (-1) s) → wl_Superblocks_lastOfRising_7 Q (fun v8 v9 s7 => Q v8 s7) (nI b) x2 (nI to) x4 (m + 1) last (nI pl) s := by
  have hz := hB.2.2.2.2.1
  intro m
  induction m with
  | zero =>
    intro pl last hp h1 h2
    exact br_t (by (first | omega | ((simp (disch := omega) only [li0, li1, li2, li3, li4, li5, li9, li11, li40, li100, li200, li8000, li10000, lt_nI, le_nI, eq_nI]); done) | ((simp (disch := omega) only [li0, li1, li2, li3, li4, li5, li9, li11, li40, li100, li200, li8000, li10000, lt_nI, le_nI, eq_nI]); omega))) (h1 last rfl)
  | succ m ih =>
    intro pl last hp h1 h2
    refine br_f (by (first | omega | ((simp (disch := omega) only [li0, li1, li2, li3, li4, li5, li9, li11, li40, li100, li200, li8000, li10000, lt_nI, le_nI, eq_nI]); done) | ((simp (disch := omega) only [li0, li1, li2, li3, li4, li5, li9, li11, li40, li100, li200, li8000, li10000, lt_nI, le_nI, eq_nI]); omega))) ?_
    rw [li2, nI_add]
    refine c_get hB hb (by omega) ?_
    unfold rise at h1 h2
    by_cases c : last ≤ D b (2 + pl)
    · rw [if_pos c] at h1 h2
      refine br_t c ?_
      (intro v hv; subst hv)
      rw [nI_1]
      exact ih (pl + 1) _ (by omega) h1 h2
    · rw [if_neg c] at h2
      exact br_f c (h2 rfl)
theorem c_chain {s0 : gS} {bl wd mm fn : Nat} {D : Nat → Nat → Int32} (hB0 : BC s0 bl wd mm fn D) {e need begin : Nat} (hneed : need = needN wd e) (he : e < 2 ^ 20) (hbeg : begin < wd - 2) (hbe : begin < e) {Q : Int32 → gS → Prop} {x1 : Int32} : ∀ (m n fu : Nat) (s : gS) (b last : Int32) (seen : Nat → Bool), n + m = need → m < fu → Fr [] [9] s0 s → SetH (s.2 9) seen → 0 ≤ last → (chk bl wd D e fu n (if n = 0 then begin else 0) b last seen = none → ∀ s', Fr [] [9] s0 s' → Q 0 s') → (∀ l sn, chk bl wd D e fu n (if n = 0 then begin else 0) b last seen = some (l, sn) → ∀ s', Fr [] [9] s0 s' → SetH (s'.2 9) sn → Q 1 s') → wl_Superblocks_isChainRight_28 Q (fun v25 v26 v27 s24 => ((¬ v25 = 0 → Q 0 s24) ∧ (v25 = 0 → Q 1 s24))) x1 (nI begin) (nI e) (nI (wd - 2)) (nI need) (m + 1) b last (nI n) s := by
  have hz := hB0.2.2.2.2.1
  have hn2 : need = (e + (wd - 2 - 1)) / (wd - 2) := by rw [hneed]; unfold needN; congr 1
  have hnb : need < 2 ^ 21 := by rw [hneed]; exact Nat.lt_of_le_of_lt (Nat.div_le_self _ _) (by omega)
  intro m
  induction m with
  | zero =>
    intro n fu s b last seen hn hfu hF hS hl h0 h1
    have : n = need := by omega
    subst this
    obtain ⟨fu, rfl⟩ : ∃ k, fu = k + 1 := ⟨fu - 1, by omega⟩
    have hge := ceil_ge (by omega) hn2
    unfold chk at h0 h1
    rw [if_pos hge] at h0 h1
    refine br_t (by (first | omega | ((simp (disch := omega) only [li0, li1, li2, li3, li4, li5, li9, li11, li40, li100, li200, li8000, li10000, lt_nI, le_nI, eq_nI]); done) | ((simp (disch := omega) only [li0, li1, li2, li3, li4, li5, li9, li11, li40, li100, li200, li8000, li10000, lt_nI, le_nI, eq_nI]); omega))) ?_
    by_cases cb : b = 0
    · rw [if_pos cb] at h1
      exact br_nf cb (h1 _ _ rfl s hF hS)
    · rw [if_neg cb] at h0
      exact br_nt cb (h0 rfl s hF)
  | succ m ih =>
    intro n fu s b last seen hn hfu hF hS hl h0 h1
    obtain ⟨fu, rfl⟩ : ∃ k, fu = k + 1 := ⟨fu - 1, by omega⟩
    have hlt := ceil_lt (by omega) hn2 (show n < need by omega)
    have hh := here_pos hlt (show 0 < wd - 2 by omega)
    have hB := BC_fr hB0 hF (by decide) (by decide)
    unfold chk at h0 h1
    rw [if_neg (by omega)] at h0 h1
    refine br_f (by (first | omega | ((simp (disch := omega) only [li0, li1, li2, li3, li4, li5, li9, li11, li40, li100, li200, li8000, li10000, lt_nI, le_nI, eq_nI]); done) | ((simp (disch := omega) only [li0, li1, li2, li3, li4, li5, li9, li11, li40, li100, li200, li8000, li10000, lt_nI, le_nI, eq_nI]); omega))) ?_
    unfold wp_Superblocks_isNewRightBlock
    by_cases c1 : b < 2
    · rw [if_pos c1] at h0
      exact br_t c1 (br_nf rfl (h0 rfl s hF))
    rw [if_neg c1] at h0 h1
    refine br_f c1 ?_
    rw [hB.1]
    by_cases c2 : nI bl ≤ b
    · rw [if_pos c2] at h0
      exact br_t c2 (br_nf rfl (h0 rfl s hF))
    rw [if_neg c2] at h0 h1
    refine br_f c2 ?_
    have hb0 : ¬ b < 0 := fun q => c1 (Int32.lt_of_lt_of_le q (by decide))
    obtain ⟨bb, hbb, eb, -, ec, -⟩ := pk_mu hb0 c2 (by omega)
    rw [ec] at h0 h1
    subst eb
    refine c_has14 (p := seen) (by omega) hS ?_
    cases c3 : seen bb with
    | true =>
      rw [if_pos c3] at h0
      exact br_f (by decide) (br_nf rfl (h0 rfl s hF))
    | false =>
      rw [if_neg (by rw [c3]; decide)] at h0 h1
      refine br_t rfl (c_add14 (by omega) ?_)
      have hF2 : Fr [] [9] s0 (s.1, ua s.2 9 (upd (s.2 9) bb 1)) := Fr_a hF (by decide)
      have hS2 : SetH (((s.1, ua s.2 9 (upd (s.2 9) bb 1)) : gS).2 9) (sAdd seen bb) := by rw [p2s]; exact setH_add hS bb
      generalize hsx : ((s.1, ua s.2 9 (upd (s.2 9) bb 1)) : gS) = sx at *
      have hBx := BC_fr hB0 hF2 (by decide) (by decide)
      refine c_get (i := 0) hBx hbb (by omega) ?_
      refine c_sumOf hBx hbb ?_
      by_cases c4 : D bb 0 = sumN (D bb) wd
      · rw [if_neg (fun q => q c4)] at h0 h1
        refine br_nf c4 (br_nt (by decide) ?_)
        rw [here_I hlt he (by omega)]
        intro v hv
        subst hv
        have tail : ∀ fr, fr = (if n = 0 then begin else 0) → wp_Superblocks_lastOfRising (nI bb) (nI fr) (nI (hereN (wd - 2) e n)) last sx (fun r12 s11 => ((0 ≤ r12 → wp_Disk_get (nI bb) 1 s11 (fun r15 s14 => ∀ v16 : Int32, v16 = nI n + 1 → wl_Superblocks_isChainRight_28 Q (fun v25 v26 v27 s24 => ((¬ v25 = 0 → Q 0 s24) ∧ (v25 = 0 → Q 1 s24))) x1 (nI begin) (nI e) (nI (wd - 2)) (nI need) (m + 1) r15 r12 v16 s14)) ∧ (¬ 0 ≤ r12 → Q 0 s11))) := by
          intro fr hfr
          rw [← hfr] at h0 h1
          have hfh : fr ≤ hereN (wd - 2) e n := by
            rw [hfr]
            by_cases cn : n = 0
            · rw [if_pos cn, cn]; unfold hereN; rw [Nat.zero_mul]; split <;> omega
            · rw [if_neg cn]; omega
          refine ⟨hereN (wd - 2) e n - fr + 1, c_rising hBx hbb (by omega) (hereN (wd - 2) e n - fr) fr last (by omega) (fun v hv => ?_) (fun hv => ?_)⟩
          · rw [hv] at h0 h1
            simp only at h0 h1
            have hv0 : 0 ≤ v := Int32.le_trans hl (rise_ge _ _ _ _ hv)
            refine br_t hv0 (c_get (i := 1) hBx hbb (by omega) ?_)
            (intro v hv; subst hv)
            rw [nI_1]
            refine ih (n + 1) fu sx _ v (sAdd seen bb) (by omega) (by omega) hF2 hS2 hv0 ?_ ?_
            · rw [if_neg (by omega)]
              intro q
              rw [q] at h0
              exact h0 rfl
            · rw [if_neg (by omega)]
              intro l sn q
              rw [q] at h1
              exact h1 _ _ rfl
          · rw [hv] at h0
            exact br_f (by decide) (h0 rfl sx hF2)
        by_cases cn : n = 0
        · have t1 := tail begin (by rw [if_pos cn])
          subst cn
          exact br_nf rfl t1
        · have t1 := tail 0 (by rw [if_neg cn])
          exact br_nt (by (first | omega | ((simp (disch := omega) only [li0, li1, li2, li3, li4, li5, li9, li11, li40, li100, li200, li8000, li10000, lt_nI, le_nI, eq_nI]); done) | ((simp (disch := omega) only [li0, li1, li2, li3, li4, li5, li9, li11, li40, li100, li200, li8000, li10000, lt_nI, le_nI, eq_nI]); omega))) t1
      · rw [if_pos c4] at h0
        exact br_nt c4 (br_nf rfl (h0 rfl sx hF2))
theorem c_runRight {s : gS} {bl wd mm fn : Nat} {D : Nat → Nat → Int32} (hB : BC s bl wd mm fn D) {sb k : Nat} (hsb : sb < bl) (hk : k < (wd - 3) / 4) {seen : Nat → Bool} (hS : SetH (s.2 9) seen) {Q : Int32 → gS → Prop} (h0 : rdRun bl wd D sb k seen = none → ∀ s', Fr [] [9] s s' → Q 0 s') (h1 : ∀ r sn, rdRun bl wd D sb k seen = some (r, sn) → ∀ s', Fr [] [9] s s' → SetH (s'.2 9) sn → Q 1 s') : wp_Superblocks_isRunRight (nI sb) (3 + (nI k * 4)) s Q := by
  have hz := hB.2.2.2.2.1
  have ea : (3 : Int32) + nI k * 4 = nI (3 + 4 * k) := by rw [li4, pk_mul, li3, nI_add]; congr 1; omega
  rw [ea]
  unfold wp_Superblocks_isRunRight
  rw [show nI (3 + 4 * k) + 1 = nI (3 + 4 * k + 1) from nI_1 _, show nI (3 + 4 * k) + 2 = nI (3 + 4 * k + 2) from nI_add _ 2, show nI (3 + 4 * k) + 3 = nI (3 + 4 * k + 3) from nI_add _ 3, show nI (3 + 4 * k) + 0 = nI (3 + 4 * k) from nI_add _ 0]
  refine c_get hB hsb (by omega) (c_get hB hsb (by omega) (c_per hB (c_get hB hsb (by omega) ?_)))
  unfold rdRun at h0 h1
  by_cases c1 : D sb (3 + 4 * k + 3) < 0
  · rw [if_pos (Or.inl c1)] at h0
    exact br_t c1 (h0 rfl s (Fr_refl _ _ _))
  refine br_f c1 ?_
  by_cases c3 : D sb (3 + 4 * k + 1) < 0
  · rw [if_pos (Or.inr (Or.inr (Or.inl c3)))] at h0
    exact br_t c3 (h0 rfl s (Fr_refl _ _ _))
  refine br_f c3 ?_
  by_cases c4 : nI (wd - 2) ≤ D sb (3 + 4 * k + 1)
  · rw [if_pos (Or.inr (Or.inr (Or.inr c4)))] at h0
    exact br_f (Int32.not_lt.mpr c4) (h0 rfl s (Fr_refl _ _ _))
  refine br_t (Int32.not_le.mp c4) ?_
  by_cases c2 : D sb (3 + 4 * k + 2) < 1
  · rw [if_pos (Or.inr (Or.inl c2))] at h0
    exact br_t c2 (h0 rfl s (Fr_refl _ _ _))
  refine br_f c2 ?_
  rw [if_neg (fun q => by rcases q with q | q | q | q; exact c1 q; exact c2 q; exact c3 q; exact c4 q)] at h0 h1
  have hc0 : ¬ D sb (3 + 4 * k + 2) < 0 := fun q => c2 (Int32.lt_of_lt_of_le q (by decide))
  obtain ⟨e2, hl2⟩ := nI_ofI hc0
  obtain ⟨e1, hl1⟩ := nI_ofI c3
  have hc1 : 1 ≤ (D sb (3 + 4 * k + 2)).toNatClampNeg := by
    have c2 := c2
    rw [e2, li1, lt_nI hl2 (by omega)] at c2; omega
  have hf1 : (D sb (3 + 4 * k + 1)).toNatClampNeg < wd - 2 := by
    have c4 := c4
    rw [e1, le_nI (by omega) hl1] at c4; omega
  generalize hcnt : (D sb (3 + 4 * k + 2)).toNatClampNeg = cnt at *
  generalize hbeg : (D sb (3 + 4 * k + 1)).toNatClampNeg = beg at *
  rw [e1, e2, hB.1, pk_mul]
  have hbw : bl * (wd - 2) ≤ 200 * 38 := Nat.mul_le_mul (by omega) (by omega)
  by_cases c5 : cnt ≤ bl * (wd - 2)
  · refine br_t (by (first | omega | ((simp (disch := omega) only [li0, li1, li2, li3, li4, li5, li9, li11, li40, li100, li200, li8000, li10000, lt_nI, le_nI, eq_nI]); done) | ((simp (disch := omega) only [li0, li1, li2, li3, li4, li5, li9, li11, li40, li100, li200, li8000, li10000, lt_nI, le_nI, eq_nI]); omega))) (c_get hB hsb (by omega) ?_)
    unfold wp_Superblocks_isChainRight
    rw [nI_add]
    refine c_per hB (c_blocksFor hB (by omega) ?_)
    refine ⟨needN wd (beg + cnt) + 1, ?_⟩
    have hnd : needN wd (beg + cnt) < beg + cnt + 1 := by
      unfold needN
      refine (Nat.div_lt_iff_lt_mul (by omega)).mpr ?_
      have : (beg + cnt + 1) * 9 ≤ (beg + cnt + 1) * (wd - 2) := Nat.mul_le_mul_left _ (by omega)
      have h3 : (wd - 2) + (beg + cnt) * 9 ≤ (beg + cnt + 1) * (wd - 2) := by
        rw [Nat.succ_mul]
        have : (beg + cnt) * 9 ≤ (beg + cnt) * (wd - 2) := Nat.mul_le_mul_left _ (by omega)
        omega
      omega
    refine c_chain hB (e := beg + cnt) rfl (by omega) hf1 (by omega) (needN wd (beg + cnt)) 0 (beg + cnt + 1) s (D sb (3 + 4 * k)) 0 seen (by omega) hnd (Fr_refl _ _ _) hS (Int32.le_refl _) ?_ ?_
    · rw [if_pos rfl]
      intro q s' hF'
      rw [q] at h0
      exact ⟨rfl, h0 rfl s' hF'⟩
    · rw [if_pos rfl]
      intro l sn q s' hF' hS'
      rw [q] at h1
      exact ⟨rfl, h1 _ _ rfl s' hF' hS'⟩
  · refine br_f (by rw [le_nI hl2 (by omega)]; exact c5) ?_
    cases hk : chk bl wd D (beg + cnt) (beg + cnt + 1) 0 beg (D sb (3 + 4 * k)) 0 seen with
    | none => rw [hk] at h0; exact h0 rfl s (Fr_refl _ _ _)
    | some x =>
      obtain ⟨i1, i2, i3, i4, i5, i6, i7⟩ := chk_some (by omega) _ _ _ _ _ _ x.1 x.2 hk
      have hlen := nodup_len bl i4 (fun x hx => (i3 x hx).2.1)
      rw [Nat.zero_add] at i6
      have : x.1.length * (wd - 2) ≤ bl * (wd - 2) := Nat.mul_le_mul_right _ hlen
      omega
theorem c_good {s : gS} {bl wd mm fn : Nat} {D : Nat → Nat → Int32} (hB : BC s bl wd mm fn D) {sb : Nat} (hsb : sb < bl) {Q : Int32 → gS → Prop} (h0 : rdSuper bl wd D sb = none → ∀ s', Fr [] [9] s s' → Q 0 s') (h1 : ∀ x, rdSuper bl wd D sb = some x → ∀ s', Fr [] [9] s s' → Q 1 s') : wp_Superblocks_isGood (nI sb) s Q := by
  have hz := hB.2.2.2.2.1
  unfold wp_Superblocks_isGood wp_Superblocks_epochOf
  refine c_get (i := 1) hB hsb (by omega) ?_
  unfold rdSuper at h0 h1
  by_cases c1 : D sb 1 < 1
  · rw [if_neg (fun q => q.2.1 c1)] at h0
    exact br_t c1 (h0 rfl s (Fr_refl _ _ _))
  refine br_f c1 ?_
  rw [and1]
  have hp := pb_lt (D sb 1)
  by_cases c2 : ¬ pb (D sb 1) = sb
  · rw [if_neg (fun q => c2 q.2.2.1)] at h0
    exact br_nt (by rw [eq_nI (by omega) (by omega)]; exact c2) (h0 rfl s (Fr_refl _ _ _))
  have c2 := Decidable.of_not_not c2
  refine br_nf (by rw [c2]) ?_
  refine c_get (i := 0) hB hsb (by omega) (c_sumOf hB hsb ?_)
  by_cases c0 : ¬ D sb 0 = sumN (D sb) wd
  · rw [if_neg (fun q => c0 q.1)] at h0
    exact br_f c0 (h0 rfl s (Fr_refl _ _ _))
  have c0 := Decidable.of_not_not c0
  refine br_t c0 (c_get (i := 2) hB hsb (by omega) ?_)
  by_cases c3 : D sb 2 < 0
  · rw [if_neg (fun q => q.2.2.2.1 c3)] at h0
    exact br_t c3 (h0 rfl s (Fr_refl _ _ _))
  refine br_f c3 (c_most hB ?_)
  by_cases c4 : nI ((wd - 3) / 4) < D sb 2
  · rw [if_neg (fun q => q.2.2.2.2 c4)] at h0
    exact br_f (Int32.not_le.mpr c4) (h0 rfl s (Fr_refl _ _ _))
  have c4' := Int32.not_lt.mp c4
  refine br_t c4' ?_
  rw [if_pos ⟨c0, c1, c2, c3, c4⟩] at h0 h1
  obtain ⟨e2, hl2⟩ := nI_ofI c3
  generalize (D sb 2).toNatClampNeg = N at *
  have hN : N ≤ (wd - 3) / 4 := by rw [e2, le_nI hl2 (by omega)] at c4'; exact c4'
  rw [e2]
  refine c_clear14 (fun f hf => ?_)
  have key : ∀ (m i : Nat) (si : gS) (x : List ARun × (Nat → Bool)), i + m = N → Fr [] [9] s si → rdN bl wd D sb i = some x → SetH (si.2 9) x.2 → wl_Superblocks_isGood_77 Q (fun v25 s24 => Q 1 s24) (nI sb) (D sb 1) (nI N) (m + 1) (nI i) si := by
    intro m
    induction m with
    | zero =>
      intro i si x hi hF hx hS
      have : i = N := by omega
      subst this
      exact br_t (by (first | omega | ((simp (disch := omega) only [li0, li1, li2, li3, li4, li5, li9, li11, li40, li100, li200, li8000, li10000, lt_nI, le_nI, eq_nI]); done) | ((simp (disch := omega) only [li0, li1, li2, li3, li4, li5, li9, li11, li40, li100, li200, li8000, li10000, lt_nI, le_nI, eq_nI]); omega))) (h1 x hx si hF)
    | succ m ih =>
      intro i si x hi hF hx hS
      refine br_f (by (first | omega | ((simp (disch := omega) only [li0, li1, li2, li3, li4, li5, li9, li11, li40, li100, li200, li8000, li10000, lt_nI, le_nI, eq_nI]); done) | ((simp (disch := omega) only [li0, li1, li2, li3, li4, li5, li9, li11, li40, li100, li200, li8000, li10000, lt_nI, le_nI, eq_nI]); omega))) ?_
      refine c_runRight (BC_fr hB hF (by decide) (by decide)) hsb (by omega) hS (fun q s' hF' => ?_) (fun r sn q s' hF' hS' => ?_)
      · have : rdN bl wd D sb (i + 1) = none := by unfold rdN; rw [hx]; simp only; rw [q]
        exact br_nf rfl (h0 (rdN_mono this (by omega)) s' (Fr_trans hF hF'))
      · have : rdN bl wd D sb (i + 1) = some (x.1 ++ [r], sn) := by
          rw [rdN, hx]; simp only; rw [q]
        refine br_nt (by decide) ?_
        (intro v hv; subst hv)
        rw [nI_1]
        exact ih (i + 1) s' _ (by omega) (Fr_trans hF hF') this hS'
  exact ⟨N + 1, key N 0 _ ([], fun _ => false) (by omega) (Fr_a (Fr_refl _ _ _) (by decide)) rfl (by rw [p2s]; exact hf)⟩
def newest (bl wd : Nat) (D : Nat → Nat → Int32) : Int32 := if (rdSuper bl wd D 0).isSome then (if (rdSuper bl wd D 1).isSome then (if D 0 1 ≤ D 1 1 then 1 else 0) else 0) else (if (rdSuper bl wd D 1).isSome then 1 else -1)
theorem c_newest {s : gS} {bl wd mm fn : Nat} {D : Nat → Nat → Int32} (hB : BC s bl wd mm fn D) {Q : Int32 → gS → Prop} (h : ∀ s', Fr [] [9] s s' → Q (newest bl wd D) s') : wp_Superblocks_newestGood s Q := by
  have hz := hB.2.2.2.2.1
  unfold wp_Superblocks_newestGood
  unfold newest at h
  have one : ∀ (r2 : Int32) (s1 : gS), Fr [] [9] s s1 → (r2 = bI (rdSuper bl wd D 0).isSome) → wp_Superblocks_isGood 1 s1 (fun r4 s3 => ((r2 = 0 → ((r2 = 0 → ((r4 = 0 → Q (-1) s3) ∧ (¬ r4 = 0 → Q 1 s3))) ∧ (¬ r2 = 0 → Q 0 s3))) ∧ (¬ r2 = 0 → ((r4 = 0 → ((r2 = 0 → ((r4 = 0 → Q (-1) s3) ∧ (¬ r4 = 0 → Q 1 s3))) ∧ (¬ r2 = 0 → Q 0 s3))) ∧ (¬ r4 = 0 → wp_Superblocks_epochOf 0 s3 (fun r12 s11 => wp_Superblocks_epochOf 1 s11 (fun r14 s13 => ((r12 ≤ r14 → Q 1 s13) ∧ (¬ r12 ≤ r14 → Q 0 s13))))))))) := by
    intro r2 s1 hF1 hr2
    have hB1 := BC_fr hB hF1 (by decide) (by decide)
    refine c_good (sb := 1) hB1 (by omega) (fun q s3 hF3 => ?_) (fun x q s3 hF3 => ?_)
    · have hF := Fr_trans hF1 hF3
      cases hg : (rdSuper bl wd D 0).isSome with
      | true =>
        rw [hg] at hr2; subst hr2
        rw [hg, q] at h
        exact br_f (by decide) (br_t rfl (br_f (by decide) (h s3 hF)))
      | false =>
        rw [hg] at hr2; subst hr2
        rw [hg, q] at h
        exact br_t rfl (br_t rfl (br_t rfl (h s3 hF)))
    · have hF := Fr_trans hF1 hF3
      have hB3 := BC_fr hB hF (by decide) (by decide)
      cases hg : (rdSuper bl wd D 0).isSome with
      | true =>
        rw [hg] at hr2; subst hr2
        rw [hg, q] at h
        refine br_f (by decide) (br_f (by decide) ?_)
        refine c_get (b := 0) (i := 1) hB3 (by omega) (by omega) (c_get (b := 1) (i := 1) hB3 (by omega) (by omega) ?_)
        by_cases c : D 0 1 ≤ D 1 1
        · rw [if_pos (show (some x).isSome = true from rfl), if_pos c] at h; exact br_t c (h s3 hF)
        · rw [if_pos (show (some x).isSome = true from rfl), if_neg c] at h; exact br_f c (h s3 hF)
      | false =>
        rw [hg] at hr2; subst hr2
        rw [hg, q] at h
        exact br_t rfl (br_t rfl (br_f (by decide) (h s3 hF)))
  refine c_good (sb := 0) hB (by omega) (fun q s1 hF1 => one 0 s1 hF1 (by rw [q]; rfl)) (fun x q s1 hF1 => one 1 s1 hF1 (by rw [q]; rfl))
theorem c_load {s : gS} {bl wd mm fn : Nat} {D : Nat → Nat → Int32} (hB : BC s bl wd mm fn D) (h9 : s.1 9 = 0) {sb : Nat} (hsb : sb < bl) {rs : List ARun} {sn : Nat → Bool} (hx : rdSuper bl wd D sb = some (rs, sn)) {Q : gS → Prop} (h : ∀ s', Fr [9] [3, 4, 5, 6, 7] s s' → RC s' D rs.length (getF rs) → Q s') : wp_Superblocks_load_6 (nI sb) s Q := by
  have hz := hB.2.2.2.2.1
  have hw : 11 ≤ wd ∧ wd ≤ 40 := by omega
  unfold rdSuper at hx
  by_cases c : D sb 0 = sumN (D sb) wd ∧ ¬ D sb 1 < 1 ∧ pb (D sb 1) = sb ∧ ¬ D sb 2 < 0 ∧ ¬ nI ((wd - 3) / 4) < D sb 2
  case neg => rw [if_neg c] at hx; cases hx
  rw [if_pos c] at hx
  obtain ⟨e2, hl2⟩ := nI_ofI c.2.2.2.1
  have c4 := Int32.not_lt.mp c.2.2.2.2
  obtain ⟨j1, j2, j3, j4⟩ := rdN_some hw (by omega) _ rs sn hx
  generalize (D sb 2).toNatClampNeg = N at *
  have hN : N ≤ (wd - 3) / 4 := by rw [e2, le_nI hl2 (by omega)] at c4; exact c4
  unfold wp_Superblocks_load_6
  refine c_get (i := 2) hB hsb (by omega) ?_
  rw [e2, if_neg (by rw [li9, lt_nI (by omega) (by omega)]; omega)]
  (intro v hv; subst hv)
  have key : ∀ (m i : Nat) (si : gS), i + m = N → Fr [9] [3, 4, 5, 6, 7] s si → RC si D (rs.take i).length (getF (rs.take i)) → wl_Superblocks_load_6_18 Q (fun v19 s18 => Q s18) (nI sb) (nI N) (m + 1) (nI i) si := by
    intro m
    induction m with
    | zero =>
      intro i si hi hF hR
      have : i = N := by omega
      subst this
      rw [show rs.take i = rs by rw [← j1, List.take_length]] at hR
      exact br_t (by (first | omega | ((simp (disch := omega) only [li0, li1, li2, li3, li4, li5, li9, li11, li40, li100, li200, li8000, li10000, lt_nI, le_nI, eq_nI]); done) | ((simp (disch := omega) only [li0, li1, li2, li3, li4, li5, li9, li11, li40, li100, li200, li8000, li10000, lt_nI, le_nI, eq_nI]); omega))) (h si hF hR)
    | succ m ih =>
      intro i si hi hF hR
      have hBi := BC_fr hB hF (by decide) (by decide)
      have hi' : i < rs.length := by omega
      have hr := (j2 _ (getF_mem hi')).1
      have hcnt := runOK_cnt hw hr
      have hh := runOK_head hw hr
      have hb := hr.2.2.2.1
      obtain ⟨k1, k2, k3, k4⟩ := j3 i (by omega)
      refine br_f (by (first | omega | ((simp (disch := omega) only [li0, li1, li2, li3, li4, li5, li9, li11, li40, li100, li200, li8000, li10000, lt_nI, le_nI, eq_nI]); done) | ((simp (disch := omega) only [li0, li1, li2, li3, li4, li5, li9, li11, li40, li100, li200, li8000, li10000, lt_nI, le_nI, eq_nI]); omega))) ?_
      intro v hv
      have ea : v = nI (3 + 4 * i) := by rw [hv, li4, pk_mul, li3, nI_add]; congr 1; omega
      subst ea
      rw [show nI (3 + 4 * i) + 1 = nI (3 + 4 * i + 1) from nI_1 _, show nI (3 + 4 * i) + 2 = nI (3 + 4 * i + 2) from nI_add _ 2, show nI (3 + 4 * i) + 3 = nI (3 + 4 * i + 3) from nI_add _ 3, show nI (3 + 4 * i) + 0 = nI (3 + 4 * i) from nI_add _ 0]
      refine c_get hBi hsb (by omega) (c_get hBi hsb (by omega) (c_get hBi hsb (by omega) (c_get hBi hsb (by omega) ?_)))
      rw [k1, k2, k3, k4]
      refine c_add hBi hR (by rw [List.length_take]; omega) hh.2.1 (by omega) (by omega) (fun s' hF' hR' => ?_)
      (intro v hv; subst hv)
      rw [nI_1]
      refine ih (i + 1) s' (by omega) (Fr_trans hF hF') ?_
      rw [take_snoc hi']
      exact hR'
  refine ⟨N + 1, key N 0 s (by omega) (Fr_refl _ _ _) ⟨h9, by simp, fun i hi => absurd hi (by simp)⟩⟩
