/-! The reference: spill. -/
theorem take_last {km : List Int32} {j : Nat} (hj : j < km.length) : km.take (km.length - j) = km.take (km.length - (j + 1)) ++ [keyMem km j] := by
  rw [show km.length - j = km.length - (j + 1) + 1 by omega, List.take_succ]
  have : km[km.length - (j + 1)]? = some (keyMem km j) := by
    unfold keyMem
    rw [show km.length - 1 - j = km.length - (j + 1) by omega]
    simp [List.getD, show km.length - (j + 1) < km.length by omega]
  rw [this]; rfl
theorem least_last {km : List Int32} (hf : Fall km) {j : Nat} (hj : j < km.length) : ∀ y, y ∈ km.take (km.length - (j + 1)) → keyMem km j ≤ y := by
  intro y hy
  obtain ⟨i, hi, e⟩ := List.getElem_of_mem hy
  have hi2 : i < km.length - (j + 1) := by rw [List.length_take] at hi; omega
  have : y = km.getD i 0 := by rw [← e, getD_lt (by omega)]; simp
  rw [this]
  unfold keyMem
  exact fall_get hf (by omega) (by omega)
theorem MM_len {t : gS} {km : List Int32} (h : MM t km) : t.1 10 = nI km.length := by
  obtain ⟨kt, hp, h2, -⟩ := h
  rw [h2, hp.length_eq]
theorem m_loop {bl wd mm fn : Nat} {ep : Int32} {syn : Nat → Bool} {Q : Int32 → gS → Prop} {x1 : Int32} : ∀ (f : Nat) (t : gS) (D : Nat → Nat → Int32) (wr : Int32) (cut : Nat) (km : List Int32) (rs : List ARun), rs.length ≤ f → LM bl wd mm fn ep syn t D wr cut km rs → WF bl wd mm D cut km rs → (∀ b t', ResM bl wd mm fn ep syn (t.1 0) (aLoop bl wd fn syn f D wr cut km rs) b t' → Q b t') → wl_M_SpillQueueModel_spill_75 Q (fun v27 s26 => Q 1 s26) x1 (f + 2) 1 t := by
  intro f
  induction f with
  | zero =>
    intro t D wr cut km rs hf hL hW h
    have hz := hL.1.2.2.2.2.1
    have hR := hL.2.2.2.2.2.2.2.2.1
    refine br_f (by decide) ?_
    refine m_crowded hR hL.1.2.2.2.1 (by omega) ?_
    have e : crow fn (getF rs) rs.length = none := by rw [show rs.length = 0 by omega]; rfl
    rw [e]
    refine br_t oI_neg (br_t rfl ?_)
    exact h 1 t ⟨rfl, fun q => absurd q n02, fun _ => rfl, fun q => absurd q n09, fun _ => hL⟩
  | succ f ih =>
    intro t D wr cut km rs hf hL hW h
    have hz := hL.1.2.2.2.2.1
    have hR := hL.2.2.2.2.2.2.2.2.1
    have h9 := hR.2.1
    refine br_f (by decide) ?_
    refine m_crowded hR hL.1.2.2.2.1 (by omega) ?_
    unfold aLoop at h
    cases hc : crow fn (getF rs) rs.length with
    | none =>
      rw [hc] at h
      refine br_t oI_neg (br_t rfl ?_)
      exact h 1 t ⟨rfl, fun q => absurd q n02, fun _ => rfl, fun q => absurd q n09, fun _ => hL⟩
    | some i =>
      rw [hc] at h
      simp only at h
      obtain ⟨hi, hp, hl⟩ := crow_some hc
      have e : (oI (some i)).toNatClampNeg = i := cl_nI (by omega)
      refine br_f (oI_pos (by omega)) ⟨vp_in_nI (n := i) (by omega) (by omega), ⟨vp_in_nI (n := i) (by omega) (by omega), ?_⟩⟩
      rw [e, (hR.2.2 i hi).2.2.2]
      have hm := wf_merge (syn := syn) (wr := wr) (lv := (getF rs i).2.2.2 + 1) ⟨by omega, by omega⟩ (by omega) hW hp (by have := hW.2.2.2.2.1; omega)
      refine m_merge (p := pL (getF rs i).2.2.2) hL hW.2.2.2.2.2.1 hW.1 (fun q => absurd rfl q) (fun _ r => rfl) hp (fun b t1 hR1 => ?_)
      obtain ⟨r0, r1, r2, r3, r4⟩ := hR1
      rcases aMerge_code bl wd syn D wr cut km rs (pL (getF rs i).2.2.2) ((getF rs i).2.2.2 + 1) with c | c | c
      · rw [c] at h r1 r4
        rw [if_neg (show ¬ ((-2 : Int32), D, wr, cut, km, rs).1 = 0 from n20), if_pos rfl] at h
        refine br_t (r1 rfl) (br_t rfl ?_)
        exact h 1 t1 ⟨r0, fun q => absurd q n02, fun _ => rfl, fun q => absurd q n09, fun _ => r4 n29⟩
      · have hb := r2 (by rw [c]; exact n92)
        subst hb
        rw [c, if_neg n90, if_neg n92] at h
        have hO := r3 c
        refine br_f (by decide) (br_nt (by rw [hO.2.2.1]; decide) (br_t rfl ?_))
        exact h 1 t1 ⟨r0, r1, r2, r3, r4⟩
      · have hb := r2 (by rw [c]; exact n02)
        subst hb
        rw [if_pos c] at h
        have hL1 := r4 (by rw [c]; exact n09)
        have hlen := aMerge_len c
        refine br_f (by decide) (br_nf hL1.2.2.2.1 ?_)
        refine ih t1 _ _ _ _ _ (by rw [hlen]; omega) hL1 (hm (by rw [c]; exact n09)) (fun b t2 hR2 => h b t2 ?_)
        rw [r0] at hR2
        exact hR2
theorem m_spill2 {bl wd mm fn : Nat} {ep : Int32} {syn : Nat → Bool} {t : gS} {D : Nat → Nat → Int32} {wr : Int32} {cut : Nat} {km : List Int32} {rs : List ARun} (hL : LM bl wd mm fn ep syn t D wr cut km rs) (hW : WF bl wd mm D cut km rs) (hk : 1 ≤ km.length) (hl : rs.length < (wd - 3) / 4) {Q : Int32 → gS → Prop} (h : ∀ b t', ResM bl wd mm fn ep syn (t.1 0) (aSpill2 bl wd fn syn D wr cut km rs) b t' → Q b t') : wp_M_SpillQueueModel_choose (nI km.length) t (fun r7 s6 => ((¬ r7 = 0 → wp_M_SpillQueueModel_writeKeys (nI km.length) 1 s6 (fun s9 => vp_in 0 200 ∧ (wp_M_SpillQueueModel_addRun (s9.2 9 (0 : Int32).toNatClampNeg) (nI km.length) 0 s9 (fun s12 => ((¬ (s12.1 9) = 0 → ∃ n25 : Nat, wl_M_SpillQueueModel_spill_75 Q (fun v27 s26 => Q 1 s26) (nI km.length) n25 0 s12) ∧ ((s12.1 9) = 0 → ∃ n28 : Nat, wl_M_SpillQueueModel_spill_75 Q (fun v30 s29 => Q 1 s29) (nI km.length) n28 1 s12)))))) ∧ (r7 = 0 → Q 0 s6))) := by
  have hL0 := hL
  obtain ⟨hB, h1, h8, h9, h11, h6, h7, hM, hR, hsy⟩ := hL
  have hz := hB.2.2.2.2.1
  have hw : 11 ≤ wd ∧ wd ≤ 40 := by omega
  have hrs9 := hR.2.1
  have w3 := hW.2.2.1
  have hcut := hW.1
  have hok := hW.2.2.2.2.2.1
  have hokF : ∀ i, i < rs.length → RunOK bl wd D (getF rs i) := fun i hi => hok _ (getF_mem hi)
  have hm := wf_mem (syn := syn) (wr := wr) hw (by omega) hW hk hl
  have hml : (aMem bl wd syn D wr cut km rs).1 = 0 → (aMem bl wd syn D wr cut km rs).2.2.2.2.2.length = rs.length + 1 := by
    intro c
    rcases aMake_code bl wd syn D wr cut km rs (keyMem km) km.length [] rs 0 with e | e | ⟨-, hn, e⟩
    · unfold aMem at c; rw [e] at c; cases c
    · unfold aMem at c; rw [e] at c; cases c
    · unfold aMem; rw [e]; simp
  unfold aSpill2 thenR at h
  refine m_choose (cs := getF rs) hB hR hokF hsy (by omega) (fun c1 t2 hF2 => ?_) (fun c1 t2 hF2 hch => ?_)
  · have c1 : (aFree bl syn rs).length < needN wd km.length := c1
    have e : aMem bl wd syn D wr cut km rs = (-2, D, wr, cut, km, rs) := by unfold aMem aMake; rw [if_pos c1]
    rw [e, if_neg (show ¬ ((-2 : Int32), D, wr, cut, km, rs).1 = 0 from n20)] at h
    refine br_nf rfl (h 0 t2 ⟨hF2.1 0 (by decide), fun _ => rfl, fun q => absurd rfl q, fun q => absurd q n29, fun _ => LM_fr hL0 (Fr_mono hF2 (by decide) (by decide))⟩)
  · have c1 : needN wd km.length ≤ (aFree bl syn rs).length := c1
    have hch : ∀ i, i < needN wd km.length → t2.2 9 i = nI ((aFree bl syn rs).getD i 0) := hch
    have hL2 := LM_fr hL0 (Fr_mono hF2 (by decide) (by decide))
    have hfl : (aFree bl syn rs).length ≤ 200 := by have := aFree_len bl syn rs; omega
    have hn1 := needN_pos hw hk
    refine br_nt (by decide) ?_
    refine m_writeKeys (SM := fun j t => MM t (km.take (km.length - j))) (key := keyMem km) (Agr := fun _ => True) (count := km.length) ?_ ?_ (D0 := D) (fl := aFree bl syn rs) (cut := cut) (wr := wr) (t0 := t2) hL2.1 (by omega) c1 hfl (fun x hx => (aFree_mem hx).2) hch hcut hL2.2.2.2.2.2.2.1 hL2.2.2.2.2.2.1 hL2.2.2.2.1 (by rw [Nat.sub_zero, List.take_length]; exact hL2.2.2.2.2.2.2.2.1) (fun _ _ => trivial) ?_ ?_
    · intro Dc ta j Qa hBa _ hS hj hQ
      refine br_f (by decide) ?_
      rw [take_last hj] at hS
      refine m_takeMem hS (by rw [List.length_take]; omega) (least_last hW.2.1 hj) (fun tb hFb hMb => hQ tb (Fr_mono hFb (by decide) (by decide)) hMb)
    · intro ta tb j hF hS
      exact MM_fr hS hF (by decide) (by decide)
    · intro c2 t3 hF3 hB3 h73 h63 h93 hM3
      have e : aMem bl wd syn D wr cut km rs = (0, Dw wd (aFree bl syn rs) (needN wd km.length) km.length (keyMem km) D (needN wd km.length), wr + nI (needN wd km.length), cut - needN wd km.length, [], rs ++ [((aFree bl syn rs).take (needN wd km.length), 0, km.length, 0)]) := by
        unfold aMem aMake; rw [if_neg (by omega), if_neg c2]
      rw [e] at hm hml
      rw [e, if_pos rfl] at h
      refine ⟨vp_in_nI (n := 0) (by omega) (by omega), ?_⟩
      rw [sb_cl0, hF3.2 9 (by decide), hch 0 (by omega), ← take_headD (l := aFree bl syn rs) (n := needN wd km.length) (by omega)]
      have hR3 := RM_fr hL2.2.2.2.2.2.2.2.2.1 hF3 (by decide) (by decide)
      refine m_addRun hR3 (by omega) (fun t4 hF4 hR4 => ?_)
      have h94 : t4.1 9 = 0 := by rw [hF4.1 9 (by decide)]; exact h93
      refine br_nf h94 ⟨9 + 2, ?_⟩
      have ht0 : t4.1 0 = t.1 0 := by rw [hF4.1 0 (by decide), hF3.1 0 (by decide), hF2.1 0 (by decide)]
      refine m_loop 9 t4 _ _ _ _ _ ?_ ⟨BM_fr hB3 hF4 (by decide) (by decide), ?_, ?_, h94, ?_, ?_, ?_, ?_, hR4, ?_⟩ (hm n09) (fun b t5 hR5 => h b t5 (by rw [ht0] at hR5; exact hR5))
      · have := hml rfl
        show (rs ++ [_]).length ≤ 9
        rw [List.length_append, List.length_singleton]; omega
      · rw [hF4.1 1 (by decide), hF3.1 1 (by decide)]; exact hL2.2.1
      · rw [hF4.1 8 (by decide), hF3.1 8 (by decide)]; exact hL2.2.2.1
      · rw [hF4.1 11 (by decide), hF3.1 11 (by decide)]; exact hL2.2.2.2.2.1
      · rw [hF4.1 6 (by decide)]; exact h63
      · rw [hF4.1 7 (by decide)]; exact h73
      · have := MM_fr hM3 hF4 (by decide) (by decide)
        rw [Nat.sub_self] at this
        exact this
      · rw [hF4.2 6 (by decide), hF3.2 6 (by decide)]; exact hL2.2.2.2.2.2.2.2.2.2
    · intro c2 t3 hF3 hB3 h63 h93
      have e : aMem bl wd syn D wr cut km rs = (-9, Dw wd (aFree bl syn rs) (needN wd km.length) km.length (keyMem km) D (cut - 1), wr + nI (cut - 1), 0, [], []) := by
        unfold aMem aMake; rw [if_neg (by omega), if_pos c2]
      rw [e, if_neg (show ¬ ((-9 : Int32) = 0) from n90)] at h
      refine ⟨vp_in_nI (n := 0) (by omega) (by omega), ?_⟩
      rw [sb_cl0, hF3.2 9 (by decide), hch 0 (by omega), ← take_headD (l := aFree bl syn rs) (n := needN wd km.length) (by omega)]
      have hR3 := RM_fr hL2.2.2.2.2.2.2.2.2.1 hF3 (by decide) (by decide)
      refine m_addRun hR3 (by omega) (fun t4 hF4 hR4 => ?_)
      have h94 : t4.1 9 = 1 := by rw [hF4.1 9 (by decide)]; exact h93
      refine br_nt (by rw [h94]; decide) ⟨1, br_t rfl ?_⟩
      refine h 1 t4 ⟨?_, fun q => absurd q n92, fun _ => rfl, fun _ => ⟨BM_fr hB3 hF4 (by decide) (by decide), ?_, h94, ?_⟩, fun q => absurd rfl q⟩
      · rw [hF4.1 0 (by decide), hF3.1 0 (by decide), hF2.1 0 (by decide)]
      · rw [hF4.1 1 (by decide), hF3.1 1 (by decide)]; exact hL2.2.1
      · rw [hF4.1 6 (by decide)]; exact h63
theorem m_spill {bl wd mm fn : Nat} {ep : Int32} {syn : Nat → Bool} {t : gS} {D : Nat → Nat → Int32} {wr : Int32} {cut : Nat} {km : List Int32} {rs : List ARun} (hL : LM bl wd mm fn ep syn t D wr cut km rs) (hW : WF bl wd mm D cut km rs) (hk : 1 ≤ km.length) {Q : Int32 → gS → Prop} (h : ∀ b t', ResM bl wd mm fn ep syn (t.1 0) (aSpill bl wd fn syn D wr cut km rs) b t' → Q b t') : wp_M_SpillQueueModel_spill t Q := by
  have hz := hL.1.2.2.2.2.1
  have hR := hL.2.2.2.2.2.2.2.2.1
  have h9 := hR.2.1
  have w5 := hW.2.2.2.2.1
  have hoff := hL.2.2.2.1
  unfold wp_M_SpillQueueModel_spill
  refine m_most hL.1 ?_
  rw [hR.1]
  unfold aSpill at h
  by_cases c : rs.length < (wd - 3) / 4
  · rw [if_pos c] at h
    refine br_nt (by (first | omega | ((simp (disch := omega) only [li0, li1, li2, li3, li4, li5, li9, li11, li40, li100, li200, li8000, li10000, lt_nI, le_nI, eq_nI]); done) | ((simp (disch := omega) only [li0, li1, li2, li3, li4, li5, li9, li11, li40, li100, li200, li8000, li10000, lt_nI, le_nI, eq_nI]); omega))) (br_t hoff ?_)
    rw [MM_len hL.2.2.2.2.2.2.2.1]
    (intro v hv; subst hv)
    exact m_spill2 hL hW hk c h
  · rw [if_neg c] at h
    refine br_nf (by (first | omega | ((simp (disch := omega) only [li0, li1, li2, li3, li4, li5, li9, li11, li40, li100, li200, li8000, li10000, lt_nI, le_nI, eq_nI]); done) | ((simp (disch := omega) only [li0, li1, li2, li3, li4, li5, li9, li11, li40, li100, li200, li8000, li10000, lt_nI, le_nI, eq_nI]); omega))) ?_
    obtain ⟨r0, hr0, hr0l⟩ := hW.2.2.2.2.2.2 (by omega)
    have hf0 : (rs.filter (fun r => !(fun _ => true) r)) = [] := by simp
    have hm := wf_merge (syn := syn) (wr := wr) (p := fun _ => true) (lv := topL (getF rs) rs.length + 1) ⟨by omega, by omega⟩ (by omega) hW ⟨r0, hr0, rfl⟩ (by rw [hf0]; simp; omega)
    unfold wp_M_SpillQueueModel_mergeAll
    generalize hK : (fun (r32 : Int32) (s31 : gS) => ((¬ r32 = 0 → (((s31.1 9) = 0 → ∀ v35 : Int32, v35 = s31.1 10 → wp_M_SpillQueueModel_choose v35 s31 (fun r37 s36 => ((¬ r37 = 0 → wp_M_SpillQueueModel_writeKeys v35 1 s36 (fun s39 => vp_in 0 200 ∧ (wp_M_SpillQueueModel_addRun (s39.2 9 (0 : Int32).toNatClampNeg) v35 0 s39 (fun s42 => ((¬ (s42.1 9) = 0 → ∃ n45 : Nat, wl_M_SpillQueueModel_spill_75 Q (fun v47 s46 => Q 1 s46) v35 n45 0 s42) ∧ ((s42.1 9) = 0 → ∃ n48 : Nat, wl_M_SpillQueueModel_spill_75 Q (fun v50 s49 => Q 1 s49) v35 n48 1 s42)))))) ∧ (r37 = 0 → Q 0 s36)))) ∧ (¬ (s31.1 9) = 0 → Q 1 s31))) ∧ (r32 = 0 → Q 0 s31))) = KK
    have fin : ∀ b t', ResM bl wd mm fn ep syn (t.1 0) (aAll bl wd syn D wr cut km rs) b t' → KK b t' := by
      rintro b t1 ⟨r0, r1, r2, r3, r4⟩
      rw [← hK]
      unfold thenR at h
      rcases aMerge_code bl wd syn D wr cut km rs (fun _ => true) (topL (getF rs) rs.length + 1) with c0 | c0 | c0
      · have e : aAll bl wd syn D wr cut km rs = (-2, D, wr, cut, km, rs) := c0
        rw [e] at h r1 r2 r3 r4
        rw [if_neg (show ¬ ((-2 : Int32), D, wr, cut, km, rs).1 = 0 from n20)] at h
        have hb := r1 rfl
        subst hb
        exact br_nf rfl (h 0 t1 ⟨r0, r1, r2, r3, r4⟩)
      · have e : (aAll bl wd syn D wr cut km rs).1 = -9 := c0
        have hb := r2 (by rw [e]; exact n92)
        subst hb
        rw [if_neg (by rw [e]; exact n90)] at h
        have hO := r3 e
        exact br_nt (by decide) (br_f (by rw [hO.2.2.1]; decide) (h 1 t1 ⟨r0, r1, r2, r3, r4⟩))
      · have e : (aAll bl wd syn D wr cut km rs).1 = 0 := c0
        have hb := r2 (by rw [e]; exact n02)
        subst hb
        rw [if_pos e] at h
        have hL1 := r4 (by rw [e]; exact n09)
        have hkm : (aAll bl wd syn D wr cut km rs).2.2.2.2.1 = km := by
          rcases aMake_code bl wd syn D wr cut km rs (mKey wd D (chF (fun _ => true) rs) rs.length (getF rs)) (sumC (chF (fun _ => true) rs) (getF rs) rs.length) km (rs.filter (fun r => !(fun _ => true) r)) (topL (getF rs) rs.length + 1) with e1 | e1 | ⟨-, hn, e1⟩
          · unfold aAll aMerge; rw [e1]
          · unfold aAll aMerge at e; rw [e1] at e; cases e
          · unfold aAll aMerge; rw [e1]
        have hlen : (aAll bl wd syn D wr cut km rs).2.2.2.2.2.length = 1 := (aMerge_len e).trans (by simp)
        refine br_nt (by decide) (br_t hL1.2.2.2.1 ?_)
        rw [MM_len hL1.2.2.2.2.2.2.2.1]
        (intro v hv; subst hv)
        exact m_spill2 hL1 (hm (by show (aAll bl wd syn D wr cut km rs).1 ≠ -9; rw [e]; exact n09)) (by rw [hkm]; exact hk) (by rw [hlen]; omega) (fun b t2 hR2 => h b t2 (by rw [r0] at hR2; exact hR2))
    have key : ∀ (m i : Nat), i + m = rs.length → wl_M_SpillQueueModel_mergeAll_4 KK (fun v10 v11 s9 => wp_M_SpillQueueModel_merge 1 0 (v10 + 1) s9 (fun r13 s12 => narrow .boolean (.int r13) = .int r13 ∧ (KK r13 s12))) (m + 1) (topL (getF rs) i) (nI i) t := by
      intro m
      induction m with
      | zero =>
        intro i hi
        have : i = rs.length := by omega
        subst this
        refine br_t (by rw [hR.1]; (first | omega | ((simp (disch := omega) only [li0, li1, li2, li3, li4, li5, li9, li11, li40, li100, li200, li8000, li10000, lt_nI, le_nI, eq_nI]); done) | ((simp (disch := omega) only [li0, li1, li2, li3, li4, li5, li9, li11, li40, li100, li200, li8000, li10000, lt_nI, le_nI, eq_nI]); omega))) ?_
        refine m_merge (p := fun _ => true) hL hW.2.2.2.2.2.1 hW.1 (fun _ _ => rfl) (fun q => absurd q (by decide)) ⟨r0, hr0, rfl⟩ (fun b t1 hR1 => ⟨?_, fin b t1 hR1⟩)
        by_cases c2 : (aMerge bl wd syn D wr cut km rs (fun _ => true) (topL (getF rs) rs.length + 1)).1 = -2
        · rw [hR1.2.1 c2]; rfl
        · rw [hR1.2.2.1 c2]; rfl
      | succ m ih =>
        intro i hi
        have ih1 := ih (i + 1) (by omega)
        have hr := hR.2.2 i (by omega)
        rw [wl_M_SpillQueueModel_mergeAll_4, hR.1]
        refine br_f (by (first | omega | ((simp (disch := omega) only [li0, li1, li2, li3, li4, li5, li9, li11, li40, li100, li200, li8000, li10000, lt_nI, le_nI, eq_nI]); done) | ((simp (disch := omega) only [li0, li1, li2, li3, li4, li5, li9, li11, li40, li100, li200, li8000, li10000, lt_nI, le_nI, eq_nI]); omega))) ?_
        refine ⟨vp_in_nI (by omega) (by omega), ?_⟩
        rw [cl_nI (by omega), hr.2.2.2]
        unfold topL at ih1
        by_cases cl : (getF rs i).2.2.2 ≤ topL (getF rs) i
        · refine br_t cl ?_
          (intro v hv; subst hv)
          rw [if_pos cl] at ih1
          rw [nI_1]; exact ih1
        · refine br_f cl ?_
          refine ⟨vp_in_nI (by omega) (by omega), ?_⟩
          (intro v hv; subst hv)
          (intro v hv; subst hv)
          rw [if_neg cl] at ih1
          rw [nI_1]; exact ih1
    exact ⟨rs.length + 1, key rs.length 0 (by omega)⟩
