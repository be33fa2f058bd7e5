/-! Recovery on both sides; the relation is kept by every call. -/
theorem wf_rec {bl wd mm : Nat} {D : Nat → Nat → Int32} {sb : Nat} {rs : List ARun} {sn : Nat → Bool} (hw : 11 ≤ wd ∧ wd ≤ 40) (hbl : bl ≤ 200) (hx : rdSuper bl wd D sb = some (rs, sn)) : WF bl wd mm D 0 [] rs ∧ (∀ j, sn j = mks rs j) := by
  unfold rdSuper at hx
  by_cases c : D sb 0 = sumN (D sb) wd ∧ ¬ D sb 1 < 1 ∧ pb (D sb 1) = sb ∧ ¬ D sb 2 < 0 ∧ ¬ nI ((wd - 3) / 4) < D sb 2
  case neg => rw [if_neg c] at hx; cases hx
  rw [if_pos c] at hx
  obtain ⟨e2, hl2⟩ := nI_ofI c.2.2.2.1
  have c4 := Int32.not_lt.mp c.2.2.2.2
  obtain ⟨j1, j2, j3, j4⟩ := rdN_some hw hbl _ rs sn hx
  rw [e2, le_nI hl2 (by omega)] at c4
  refine ⟨⟨by omega, List.Pairwise.nil, Nat.zero_le _, fun k hk => absurd hk (by simp), by omega, fun r hr => (j2 r hr).1, fun hl => ?_⟩, fun j => ?_⟩
  · have h0 : 0 < rs.length := by omega
    exact ⟨_, getF_mem h0, (j2 _ (getF_mem h0)).2⟩
  · rw [j4 j, ← j1]; rfl
theorem c_rec {bl wd mm fn : Nat} {s : gS} {D : Nat → Nat → Int32} (hB : BC s bl wd mm fn D) {Q : Int32 → gS → Prop} {XQ : Nat → gS → Prop} (hno : newest bl wd D = -1 → ∀ s', DC bl wd mm fn s' D (s.1 5) → Q (-3) s') (hyes : ∀ sb rs sn, newest bl wd D = nI sb → sb < 2 → rdSuper bl wd D sb = some (rs, sn) → ∀ s', LC bl wd mm fn (D sb 1) (mks rs) s' D (s.1 5) 0 [] rs → Q (nI (sumC (fun _ => true) (getF rs) rs.length)) s') (hex : newest bl wd D = -1 ∨ ∃ sb rs sn, newest bl wd D = nI sb ∧ sb < 2 ∧ rdSuper bl wd D sb = some (rs, sn)) : wp_SpillQueue_recover s Q XQ := by
  have hz := hB.2.2.2.2.1
  have hw : 11 ≤ wd ∧ wd ≤ 40 := by omega
  unfold wp_SpillQueue_recover wp_SpillQueue_requireDisk
  refine br_nt (by rw [hB.1]; (first | omega | ((simp (disch := omega) only [li0, li1, li2, li3, li4, li5, li9, li11, li40, li100, li200, li8000, li10000, lt_nI, le_nI, eq_nI]); done) | ((simp (disch := omega) only [li0, li1, li2, li3, li4, li5, li9, li11, li40, li100, li200, li8000, li10000, lt_nI, le_nI, eq_nI]); omega))) (c_off1 hB (fun s1 hD1 h6 h9 h7 h1 hsy => ?_))
  refine c_newest hD1.1 (fun s2 hF2 => ?_)
  have hB2 := BC_fr hD1.1 hF2 (by decide) (by decide)
  rcases hex with e | ⟨sb, rs, sn, e, hsb, hx⟩
  · rw [e]
    refine br_f (by decide) (hno e s2 ⟨hB2, (hF2.1 2 (by decide)).trans hD1.2.1, (hF2.1 5 (by decide)).trans hD1.2.2⟩)
  · rw [e]
    obtain ⟨hW, hsn⟩ := wf_rec (mm := mm) hw (by omega) hx
    refine br_t (nI_pos' (by omega)) ?_
    refine c_load hB2 ((hF2.1 9 (by decide)).trans h9) (by omega) hx (fun s3 hF3 hR3 => ?_)
    have hB3 := BC_fr hB2 hF3 (by decide) (by decide)
    refine c_get (i := 1) hB3 (by omega) (by omega) ?_
    have hF4 : Fr [1] [] s3 (up s3.1 1 (D sb 1), s3.2) := Fr_u (Fr_refl _ _ _) (by decide)
    have hS3 : SetH (s3.2 10) (fun _ => false) := by rw [hF3.2 10 (by decide), hF2.2 10 (by decide)]; exact hsy
    refine c_mark16 (BC_fr hB3 hF4 (by decide) (by decide)) (RC_fr hR3 hF4 (by decide) (by decide)) (fun i hi => hW.2.2.2.2.2.1 _ (getF_mem hi)) (p := fun _ => false) hS3 (fun f hf => ?_)
    have hF5 : Fr [1, 2] [10] s3 (up (up s3.1 1 (D sb 1)) 2 1, ua s3.2 10 f) := Fr_a (s' := (up (up s3.1 1 (D sb 1)) 2 1, s3.2)) (Fr_u (s' := (up s3.1 1 (D sb 1), s3.2)) (Fr_u (Fr_refl _ _ _) (by decide)) (by decide)) (by decide)
    have hR5 := RC_fr hR3 hF5 (by decide) (by decide)
    refine c_keysInAll hR5 (hyes sb rs sn e hsb hx _ ⟨BC_fr hB3 hF5 (by decide) (by decide), ?_, ?_, ?_, ?_, ?_, hold_nil _, hR5, ?_⟩)
    · exact up_s (up s3.1 1 (D sb 1)) 2 1
    · show up (up s3.1 1 (D sb 1)) 2 1 1 = _
      rw [up_n rfl, up_s]
    · rw [hF5.1 5 (by decide), hF3.1 5 (by decide), hF2.1 5 (by decide)]; exact hD1.2.2
    · rw [hF5.1 6 (by decide), hF3.1 6 (by decide), hF2.1 6 (by decide)]; exact h6
    · rw [hF5.1 7 (by decide), hF3.1 7 (by decide), hF2.1 7 (by decide)]; exact h7
    · rw [p2s]
      exact setH_congr hf (fun j _ => by simp [mks])
theorem m_copyRec {t : gS} {p : Nat → Bool} (hp : SetH (t.2 7) p) {x1 x2 x3 : Int32} {Q : Int32 → gS → Prop} {K : Int32 → gS → Prop} (h : ∀ a f, SetH f p → K a (t.1, ua t.2 6 f)) : ∃ n39 : Nat, wl_M_SpillQueueModel_recover_130 Q K x1 x2 x3 n39 0 t := by
  have key : ∀ (m i : Nat) (f : Nat → Int32), i + m = 200 → (∀ j, j < i → f j = bI (p j)) → wl_M_SpillQueueModel_recover_130 Q K x1 x2 x3 (m + 1) (nI i) (t.1, ua t.2 6 f) := by
    intro m
    induction m with
    | zero =>
      intro i f hi hf
      exact br_t (by (first | omega | ((simp (disch := omega) only [li0, li1, li2, li3, li4, li5, li9, li11, li40, li100, li200, li8000, li10000, lt_nI, le_nI, eq_nI]); done) | ((simp (disch := omega) only [li0, li1, li2, li3, li4, li5, li9, li11, li40, li100, li200, li8000, li10000, lt_nI, le_nI, eq_nI]); omega))) (h _ f (fun j hj => hf j (by omega)))
    | succ m ih =>
      intro i f hi hf
      refine br_f (by (first | omega | ((simp (disch := omega) only [li0, li1, li2, li3, li4, li5, li9, li11, li40, li100, li200, li8000, li10000, lt_nI, le_nI, eq_nI]); done) | ((simp (disch := omega) only [li0, li1, li2, li3, li4, li5, li9, li11, li40, li100, li200, li8000, li10000, lt_nI, le_nI, eq_nI]); omega))) ?_
      refine ⟨vp_in_nI (by omega) (by omega), ?_⟩
      intro v hv
      rw [cl_nI (by omega), p2n rfl, hp i (by omega)] at hv
      subst hv
      refine ⟨vp_in_nI (by omega) (by omega), ?_⟩
      (intro v hv; subst hv)
      have := ih (i + 1) (upd f i (bI (p i))) (by omega) (fun j hj => by
        by_cases e : j = i
        · rw [e, upd_s]
        · rw [upd_n e]; exact hf j (by omega))
      show wl_M_SpillQueueModel_recover_130 Q K x1 x2 x3 (m + 1) (nI i + 1) (t.1, ua (ua t.2 6 f) 6 (upd (ua t.2 6 f 6) (nI i).toNatClampNeg (vp_nar .boolean (bI (p i)))))
      rw [ua_ua, ua_s, cl_nI (by omega), nbI, nI_1]
      exact this
  refine ⟨201, ?_⟩
  have := key 200 0 (t.2 6) rfl (fun j hj => absurd hj (by omega))
  rw [ua_id] at this
  exact this
/-- the reference as it stands before it reads a superblock -/
def PM (bl wd mm fn : Nat) (t : gS) (D : Nat → Nat → Int32) (wr : Int32) : Prop := BM t bl wd mm fn D ∧ t.1 0 = 0 ∧ t.1 1 = 1 ∧ t.1 6 = wr ∧ t.1 7 = 0 ∧ t.1 8 = 0 ∧ t.1 9 = 0 ∧ t.1 10 = 0
theorem PM_fr {bl wd mm fn : Nat} {t t' : gS} {D : Nat → Nat → Int32} {wr : Int32} (h : PM bl wd mm fn t D wr) (hF : Fr [12] [2, 3, 4, 5, 7] t t') : PM bl wd mm fn t' D wr :=
  ⟨BM_fr h.1 hF (by decide) (by decide), (hF.1 _ (by decide)).trans h.2.1, (hF.1 _ (by decide)).trans h.2.2.1, (hF.1 _ (by decide)).trans h.2.2.2.1, (hF.1 _ (by decide)).trans h.2.2.2.2.1, (hF.1 _ (by decide)).trans h.2.2.2.2.2.1, (hF.1 _ (by decide)).trans h.2.2.2.2.2.2.1, (hF.1 _ (by decide)).trans h.2.2.2.2.2.2.2⟩
theorem m_recTail {bl wd mm fn : Nat} {t : gS} {D : Nat → Nat → Int32} {wr : Int32} (hP : PM bl wd mm fn t D wr) {sb : Nat} (hsb : sb < 2) {rs : List ARun} {sn : Nat → Bool} (hx : rdSuper bl wd D sb = some (rs, sn)) {r5 r7 x3 : Int32} {Q : Int32 → gS → Prop} (h : ∀ t', t'.1 0 = 0 → LM bl wd mm fn (D sb 1) (mks rs) t' D wr 0 [] rs → Q (nI (sumC (fun _ => true) (getF rs) rs.length)) t') : wp_M_SpillQueueModel_readSuper (nI sb) t (fun r12 s11 => (narrow .boolean (.int r12) = .int r12 ∧ fits .boolean (.int r12) = true) ∧ (wp_M_SpillQueueModel_at (nI sb) 1 (up s11.1 8 (r12), s11.2) (fun r15 s14 => ∃ n21 : Nat, wl_M_SpillQueueModel_recover_130 Q (fun v23 s22 => wp_M_SpillQueueModel_size0 s22 (fun r25 s24 => Q r25 s24)) r5 r7 x3 n21 0 (up s14.1 11 (r15), s14.2)))) := by
  have hz := hP.1.2.2.2.2.1
  obtain ⟨hW, hsn⟩ := wf_rec (mm := mm) ⟨by omega, by omega⟩ (by omega) hx
  refine m_readSuper hP.1 (by omega) (fun q => by rw [hx] at q; cases q) (fun rs' sn' q t1 hF1 hR1 hS1 => ?_)
  rw [hx] at q
  cases q
  have hP1 := PM_fr hP hF1
  refine ⟨⟨rfl, rfl⟩, ?_⟩
  have hF2 : Fr [8] [] t1 (up t1.1 8 1, t1.2) := Fr_u (Fr_refl _ _ _) (by decide)
  refine m_at (i := 1) (BM_fr hP1.1 hF2 (by decide) (by decide)) (by omega) (by omega) ?_
  refine m_copyRec (t := (up (up t1.1 8 1) 11 (D sb 1), t1.2)) (p := sn) hS1 (fun a f hf => ?_)
  have hF3 : Fr [8, 11] [6] t1 (up (up t1.1 8 1) 11 (D sb 1), ua t1.2 6 f) := Fr_a (s' := (up (up t1.1 8 1) 11 (D sb 1), t1.2)) (Fr_u (s' := (up t1.1 8 1, t1.2)) (Fr_u (Fr_refl _ _ _) (by decide)) (by decide)) (by decide)
  have hR3 := RM_fr hR1 hF3 (by decide) (by decide)
  have e10 : (up (up t1.1 8 1) 11 (D sb 1)) 10 = nI 0 := (hF3.1 10 (by decide)).trans hP1.2.2.2.2.2.2.2
  refine m_size0 (k := 0) hR3 e10 ?_
  rw [Nat.zero_add]
  refine h _ ((hF3.1 0 (by decide)).trans hP1.2.1) ⟨BM_fr hP1.1 hF3 (by decide) (by decide), (hF3.1 1 (by decide)).trans hP1.2.2.1, ?_, (hF3.1 9 (by decide)).trans hP1.2.2.2.2.2.2.1, ?_, (hF3.1 6 (by decide)).trans hP1.2.2.2.1, (hF3.1 7 (by decide)).trans hP1.2.2.2.2.1, ⟨[], List.Perm.refl _, e10, hold_nil _⟩, hR3, ?_⟩
  · show up (up t1.1 8 1) 11 (D sb 1) 8 = 1
    rw [up_n rfl, up_s]
  · exact up_s (up t1.1 8 1) 11 (D sb 1)
  · rw [p2s]
    exact setH_congr hf (fun j _ => hsn j)
theorem isS (x : List ARun × (Nat → Bool)) : ¬ bI (some x).isSome = 0 := by show ¬ (1 : Int32) = 0; decide
theorem L_recover {a1 a2 a3 a4 : Int32} {s : gS} {f : Nat → Int64} {t : gS} (h : Rel s t) : lawStep_recover a1 a2 a3 a4 s f t (fun s1 _ t1 => Rel s1 t1) := by
  unfold lawStep_recover wp_L_recover
  rcases rel_disk h with ⟨d1, d2, d3, d4, d5⟩ | ⟨bl, wd, mm, fn, D, hB, hM, m1, hwr⟩
  · unfold wp_SpillQueue_recover wp_SpillQueue_requireDisk
    refine br_nf d2 ⟨rfl, br_t d4 (k_th (by decide) (th_s t 1) (rel_th h 1))⟩
  · have hz := hB.2.2.2.2.1
    -- the reference's beginning
    have ref : ∀ (Q : Int32 → gS → Prop), (∀ t1, PM bl wd mm fn t1 D (t.1 6) → wp_M_SpillQueueModel_readSuper 0 t1 (fun r5 s4 => wp_M_SpillQueueModel_readSuper 1 s4 (fun r7 s6 => ((¬ r5 = 0 → ((r5 = 0 → ((r5 = 0 → wp_M_SpillQueueModel_readSuper 1 s6 (fun r12 s11 => (narrow .boolean (.int r12) = .int r12 ∧ fits .boolean (.int r12) = true) ∧ (wp_M_SpillQueueModel_at 1 1 (up s11.1 8 (r12), s11.2) (fun r15 s14 => ∃ n21 : Nat, wl_M_SpillQueueModel_recover_130 Q (fun v23 s22 => wp_M_SpillQueueModel_size0 s22 (fun r25 s24 => Q r25 s24)) r5 r7 1 n21 0 (up s14.1 11 (r15), s14.2))))) ∧ (¬ r5 = 0 → wp_M_SpillQueueModel_readSuper 0 s6 (fun r27 s26 => (narrow .boolean (.int r27) = .int r27 ∧ fits .boolean (.int r27) = true) ∧ (wp_M_SpillQueueModel_at 0 1 (up s26.1 8 (r27), s26.2) (fun r30 s29 => ∃ n31 : Nat, wl_M_SpillQueueModel_recover_130 Q (fun v33 s32 => wp_M_SpillQueueModel_size0 s32 (fun r35 s34 => Q r35 s34)) r5 r7 0 n31 0 (up s29.1 11 (r30), s29.2))))))) ∧ (¬ r5 = 0 → ((r7 = 0 → ((r5 = 0 → wp_M_SpillQueueModel_readSuper 1 s6 (fun r39 s38 => (narrow .boolean (.int r39) = .int r39 ∧ fits .boolean (.int r39) = true) ∧ (wp_M_SpillQueueModel_at 1 1 (up s38.1 8 (r39), s38.2) (fun r42 s41 => ∃ n43 : Nat, wl_M_SpillQueueModel_recover_130 Q (fun v45 s44 => wp_M_SpillQueueModel_size0 s44 (fun r47 s46 => Q r47 s46)) r5 r7 1 n43 0 (up s41.1 11 (r42), s41.2))))) ∧ (¬ r5 = 0 → wp_M_SpillQueueModel_readSuper 0 s6 (fun r49 s48 => (narrow .boolean (.int r49) = .int r49 ∧ fits .boolean (.int r49) = true) ∧ (wp_M_SpillQueueModel_at 0 1 (up s48.1 8 (r49), s48.2) (fun r52 s51 => ∃ n53 : Nat, wl_M_SpillQueueModel_recover_130 Q (fun v55 s54 => wp_M_SpillQueueModel_size0 s54 (fun r57 s56 => Q r57 s56)) r5 r7 0 n53 0 (up s51.1 11 (r52), s51.2))))))) ∧ (¬ r7 = 0 → wp_M_SpillQueueModel_at 0 1 s6 (fun r59 s58 => wp_M_SpillQueueModel_at 1 1 s58 (fun r61 s60 => ((r59 ≤ r61 → wp_M_SpillQueueModel_readSuper 1 s60 (fun r64 s63 => (narrow .boolean (.int r64) = .int r64 ∧ fits .boolean (.int r64) = true) ∧ (wp_M_SpillQueueModel_at 1 1 (up s63.1 8 (r64), s63.2) (fun r67 s66 => ∃ n68 : Nat, wl_M_SpillQueueModel_recover_130 Q (fun v70 s69 => wp_M_SpillQueueModel_size0 s69 (fun r72 s71 => Q r72 s71)) r5 r7 1 n68 0 (up s66.1 11 (r67), s66.2))))) ∧ (¬ r59 ≤ r61 → wp_M_SpillQueueModel_readSuper 0 s60 (fun r74 s73 => (narrow .boolean (.int r74) = .int r74 ∧ fits .boolean (.int r74) = true) ∧ (wp_M_SpillQueueModel_at 0 1 (up s73.1 8 (r74), s73.2) (fun r77 s76 => ∃ n78 : Nat, wl_M_SpillQueueModel_recover_130 Q (fun v80 s79 => wp_M_SpillQueueModel_size0 s79 (fun r82 s81 => Q r82 s81)) r5 r7 0 n78 0 (up s76.1 11 (r77), s76.2))))))))))))) ∧ (r5 = 0 → ((¬ r7 = 0 → ((r5 = 0 → ((r5 = 0 → wp_M_SpillQueueModel_readSuper 1 s6 (fun r87 s86 => (narrow .boolean (.int r87) = .int r87 ∧ fits .boolean (.int r87) = true) ∧ (wp_M_SpillQueueModel_at 1 1 (up s86.1 8 (r87), s86.2) (fun r90 s89 => ∃ n91 : Nat, wl_M_SpillQueueModel_recover_130 Q (fun v93 s92 => wp_M_SpillQueueModel_size0 s92 (fun r95 s94 => Q r95 s94)) r5 r7 1 n91 0 (up s89.1 11 (r90), s89.2))))) ∧ (¬ r5 = 0 → wp_M_SpillQueueModel_readSuper 0 s6 (fun r97 s96 => (narrow .boolean (.int r97) = .int r97 ∧ fits .boolean (.int r97) = true) ∧ (wp_M_SpillQueueModel_at 0 1 (up s96.1 8 (r97), s96.2) (fun r100 s99 => ∃ n101 : Nat, wl_M_SpillQueueModel_recover_130 Q (fun v103 s102 => wp_M_SpillQueueModel_size0 s102 (fun r105 s104 => Q r105 s104)) r5 r7 0 n101 0 (up s99.1 11 (r100), s99.2))))))) ∧ (¬ r5 = 0 → ((r7 = 0 → ((r5 = 0 → wp_M_SpillQueueModel_readSuper 1 s6 (fun r109 s108 => (narrow .boolean (.int r109) = .int r109 ∧ fits .boolean (.int r109) = true) ∧ (wp_M_SpillQueueModel_at 1 1 (up s108.1 8 (r109), s108.2) (fun r112 s111 => ∃ n113 : Nat, wl_M_SpillQueueModel_recover_130 Q (fun v115 s114 => wp_M_SpillQueueModel_size0 s114 (fun r117 s116 => Q r117 s116)) r5 r7 1 n113 0 (up s111.1 11 (r112), s111.2))))) ∧ (¬ r5 = 0 → wp_M_SpillQueueModel_readSuper 0 s6 (fun r119 s118 => (narrow .boolean (.int r119) = .int r119 ∧ fits .boolean (.int r119) = true) ∧ (wp_M_SpillQueueModel_at 0 1 (up s118.1 8 (r119), s118.2) (fun r122 s121 => ∃ n123 : Nat, wl_M_SpillQueueModel_recover_130 Q (fun v125 s124 => wp_M_SpillQueueModel_size0 s124 (fun r127 s126 => Q r127 s126)) r5 r7 0 n123 0 (up s121.1 11 (r122), s121.2))))))) ∧ (¬ r7 = 0 → wp_M_SpillQueueModel_at 0 1 s6 (fun r129 s128 => wp_M_SpillQueueModel_at 1 1 s128 (fun r131 s130 => ((r129 ≤ r131 → wp_M_SpillQueueModel_readSuper 1 s130 (fun r134 s133 => (narrow .boolean (.int r134) = .int r134 ∧ fits .boolean (.int r134) = true) ∧ (wp_M_SpillQueueModel_at 1 1 (up s133.1 8 (r134), s133.2) (fun r137 s136 => ∃ n138 : Nat, wl_M_SpillQueueModel_recover_130 Q (fun v140 s139 => wp_M_SpillQueueModel_size0 s139 (fun r142 s141 => Q r142 s141)) r5 r7 1 n138 0 (up s136.1 11 (r137), s136.2))))) ∧ (¬ r129 ≤ r131 → wp_M_SpillQueueModel_readSuper 0 s130 (fun r144 s143 => (narrow .boolean (.int r144) = .int r144 ∧ fits .boolean (.int r144) = true) ∧ (wp_M_SpillQueueModel_at 0 1 (up s143.1 8 (r144), s143.2) (fun r147 s146 => ∃ n148 : Nat, wl_M_SpillQueueModel_recover_130 Q (fun v150 s149 => wp_M_SpillQueueModel_size0 s149 (fun r152 s151 => Q r152 s151)) r5 r7 0 n148 0 (up s146.1 11 (r147), s146.2))))))))))))) ∧ (r7 = 0 → Q (-3) (up s6.1 12 (0), s6.2)))))))) → wp_M_SpillQueueModel_recover t Q := by
      intro Q hQ
      unfold wp_M_SpillQueueModel_recover wp_M_SpillQueueModel_die
      refine br_f (by rw [m1]; decide) (hQ _ ?_)
      have hF : Fr [0, 7, 8, 9, 10, 12] [] t (up (up (up (up (up (up t.1 0 0) 7 0) 9 0) 8 0) 10 0) 12 0, t.2) := Fr_u (s' := (up (up (up (up (up t.1 0 0) 7 0) 9 0) 8 0) 10 0, t.2)) (Fr_u (s' := (up (up (up (up t.1 0 0) 7 0) 9 0) 8 0, t.2)) (Fr_u (s' := (up (up (up t.1 0 0) 7 0) 9 0, t.2)) (Fr_u (s' := (up (up t.1 0 0) 7 0, t.2)) (Fr_u (s' := (up t.1 0 0, t.2)) (Fr_u (Fr_refl _ _ _) (by decide)) (by decide)) (by decide)) (by decide)) (by decide)) (by decide)
      refine ⟨BM_fr hM hF (by decide) (by decide), ?_, (hF.1 1 (by decide)).trans m1, hF.1 6 (by decide), ?_, ?_, ?_, ?_⟩ <;> simp [up_i]
    have two : ∀ (t1 : gS) (Q2 : Int32 → Int32 → gS → Prop), PM bl wd mm fn t1 D (t.1 6) → (∀ t2, PM bl wd mm fn t2 D (t.1 6) → Q2 (bI (rdSuper bl wd D 0).isSome) (bI (rdSuper bl wd D 1).isSome) t2) → wp_M_SpillQueueModel_readSuper 0 t1 (fun r5 s4 => wp_M_SpillQueueModel_readSuper 1 s4 (fun r7 s6 => Q2 r5 r7 s6)) := by
      intro t1 Q2 hP hQ2
      have nxt : ∀ (r5 : Int32) (t2 : gS), PM bl wd mm fn t2 D (t.1 6) → r5 = bI (rdSuper bl wd D 0).isSome → wp_M_SpillQueueModel_readSuper 1 t2 (fun r7 s6 => Q2 r5 r7 s6) := by
        intro r5 t2 hP2 e5
        subst e5
        refine m_readSuper (sb := 1) hP2.1 (by omega) (fun q t3 hF3 => ?_) (fun rs sn q t3 hF3 _ _ => ?_)
        · have := hQ2 t3 (PM_fr hP2 hF3); rw [q] at this; exact this
        · have := hQ2 t3 (PM_fr hP2 hF3); rw [q] at this; exact this
      refine m_readSuper (sb := 0) hP.1 (by omega) (fun q t3 hF3 => ?_) (fun rs sn q t3 hF3 _ _ => ?_)
      · exact nxt 0 t3 (PM_fr hP hF3) (by rw [q]; rfl)
      · exact nxt 1 t3 (PM_fr hP hF3) (by rw [q]; rfl)
    have live : ∀ (sb : Nat) (rs : List ARun) (sn : Nat → Bool), rdSuper bl wd D sb = some (rs, sn) → ∀ (s1 t1 : gS), LC bl wd mm fn (D sb 1) (mks rs) s1 D (s.1 5) 0 [] rs → LM bl wd mm fn (D sb 1) (mks rs) t1 D (t.1 6) 0 [] rs → Rel s1 t1 := by
      intro sb rs sn hx s1 t1 hC1 hM1
      rw [hwr] at hC1
      exact Or.inr (Or.inr ⟨bl, wd, mm, fn, _, _, _, _, _, _, _, hC1, hM1, (wf_rec ⟨by omega, by omega⟩ (by omega) hx).1⟩)
    cases h0 : rdSuper bl wd D 0 with
    | none =>
      cases h1 : rdSuper bl wd D 1 with
      | none =>
        have en : newest bl wd D = -1 := by unfold newest; rw [h0, h1]; rfl
        refine c_rec hB (fun _ s1 hD => ?_) (fun sb rs sn e hsb hx => ?_) (Or.inl en)
        · refine ref _ (fun t1 hP => two t1 _ hP (fun t2 hP2 => ?_))
          rw [h0, h1]
          refine br_nf rfl (br_nf rfl ?_)
          have hF : Fr [12] [] t2 (up t2.1 12 0, t2.2) := Fr_u (Fr_refl _ _ _) (by decide)
          have hP3 := PM_fr hP2 (Fr_mono hF (by decide) (by decide))
          refine k_ok hP3.2.1 rfl (Or.inr (Or.inl ⟨bl, wd, mm, fn, D, s.1 5, hD, hP3.1, hP3.2.2.1, hP3.2.2.2.2.2.1, hP3.2.2.2.2.2.2.1, ?_⟩))
          rw [hwr]; exact hP3.2.2.2.1
        · have : sb = 0 ∨ sb = 1 := by omega
          rcases this with rfl | rfl
          · rw [h0] at hx; cases hx
          · rw [h1] at hx; cases hx
      | some y =>
        have en : newest bl wd D = nI 1 := by unfold newest; rw [h0, h1]; rfl
        refine c_rec hB (fun q => by rw [en] at q; exact absurd q (by decide)) (fun sb rs sn e hsb hx s1 hC1 => ?_) (Or.inr ⟨1, y.1, y.2, en, by omega, h1⟩)
        have : sb = 0 ∨ sb = 1 := by omega
        rcases this with rfl | rfl
        · rw [h0] at hx; cases hx
        · refine ref _ (fun t1 hP => two t1 _ hP (fun t2 hP2 => ?_))
          rw [h0, h1]
          refine br_nf rfl (br_nt (isS _) (br_t rfl (br_t rfl ?_)))
          exact m_recTail (sb := 1) hP2 (by omega) hx (fun t3 e0 hM3 => k_ok e0 rfl (live 1 rs sn hx s1 t3 hC1 hM3))
    | some x =>
      cases h1 : rdSuper bl wd D 1 with
      | none =>
        have en : newest bl wd D = nI 0 := by unfold newest; rw [h0, h1]; rfl
        refine c_rec hB (fun q => by rw [en] at q; exact absurd q (by decide)) (fun sb rs sn e hsb hx s1 hC1 => ?_) (Or.inr ⟨0, x.1, x.2, en, by omega, h0⟩)
        have : sb = 0 ∨ sb = 1 := by omega
        rcases this with rfl | rfl
        · refine ref _ (fun t1 hP => two t1 _ hP (fun t2 hP2 => ?_))
          rw [h0, h1]
          refine br_nt (isS _) (br_f (isS _) (br_t rfl (br_f (isS _) ?_)))
          exact m_recTail (sb := 0) hP2 (by omega) hx (fun t3 e0 hM3 => k_ok e0 rfl (live 0 rs sn hx s1 t3 hC1 hM3))
        · rw [h1] at hx; cases hx
      | some y =>
        by_cases c : D 0 1 ≤ D 1 1
        · have en : newest bl wd D = nI 1 := by
            unfold newest
            rw [h0, h1, if_pos (show (some x).isSome = true from rfl), if_pos (show (some y).isSome = true from rfl), if_pos c]; rfl
          refine c_rec hB (fun q => by rw [en] at q; exact absurd q (by decide)) (fun sb rs sn e hsb hx s1 hC1 => ?_) (Or.inr ⟨1, y.1, y.2, en, by omega, h1⟩)
          have : sb = 0 ∨ sb = 1 := by omega
          rcases this with rfl | rfl
          · rw [en] at e; exact absurd e (by decide)
          · refine ref _ (fun t1 hP => two t1 _ hP (fun t2 hP2 => ?_))
            rw [h0, h1]
            refine br_nt (isS _) (br_f (isS _) (br_f (isS _) ?_))
            refine m_at (b := 0) (i := 1) hP2.1 (by omega) (by omega) (m_at (b := 1) (i := 1) hP2.1 (by omega) (by omega) (br_t c ?_))
            exact m_recTail (sb := 1) hP2 (by omega) hx (fun t3 e0 hM3 => k_ok e0 rfl (live 1 rs sn hx s1 t3 hC1 hM3))
        · have en : newest bl wd D = nI 0 := by
            unfold newest
            rw [h0, h1, if_pos (show (some x).isSome = true from rfl), if_pos (show (some y).isSome = true from rfl), if_neg c]; rfl
          refine c_rec hB (fun q => by rw [en] at q; exact absurd q (by decide)) (fun sb rs sn e hsb hx s1 hC1 => ?_) (Or.inr ⟨0, x.1, x.2, en, by omega, h0⟩)
          have : sb = 0 ∨ sb = 1 := by omega
          rcases this with rfl | rfl
          · refine ref _ (fun t1 hP => two t1 _ hP (fun t2 hP2 => ?_))
            rw [h0, h1]
            refine br_nt (isS _) (br_f (isS _) (br_f (isS _) ?_))
            refine m_at (b := 0) (i := 1) hP2.1 (by omega) (by omega) (m_at (b := 1) (i := 1) hP2.1 (by omega) (by omega) (br_f c ?_))
            exact m_recTail (sb := 0) hP2 (by omega) hx (fun t3 e0 hM3 => k_ok e0 rfl (live 0 rs sn hx s1 t3 hC1 hM3))
          · rw [en] at e; exact absurd e (by decide)
theorem law_relR : LawRel Rel := by
  refine ⟨Or.inl ⟨rfl, rfl, rfl, rfl, rfl⟩, ?_⟩
  exact ⟨fun _ _ _ _ _ _ _ h => L_format h, fun _ _ _ _ _ _ _ h => L_insert h, fun _ _ _ _ _ _ _ h => L_min h, fun _ _ _ _ _ _ _ h => L_take h, fun _ _ _ _ _ _ _ h => L_sync h, fun _ _ _ _ _ _ _ h => L_cutAt h, fun _ _ _ _ _ _ _ h => L_cut h, fun _ _ _ _ _ _ _ h => L_recover h, fun _ _ _ _ _ _ _ h => L_size h, fun _ _ _ _ _ _ _ h => L_run h, fun _ _ _ _ _ _ _ h => L_about h, fun _ _ _ _ _ _ _ h => L_word h, fun _ _ _ _ _ _ _ h => L_spoil h⟩
theorem law_rel : ∃ Rel, LawRel Rel := ⟨Rel, law_relR⟩
