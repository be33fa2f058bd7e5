/-! The superblock's row; the class writes the next epoch. -/
def fld (r : ARun) (k : Nat) : Int32 := if k = 0 then aF r else if k = 1 then aB r else if k = 2 then aC r else r.2.2.2
def rowS (ep : Int32) (n : Nat) (cs : Nat → ARun) (m : Nat) : Nat → Int32 := fun i => if i = 1 then ep else if i = 2 then nI n else if 3 ≤ i ∧ i < 3 + 4 * m then fld (cs ((i - 3) / 4)) ((i - 3) % 4) else 0
theorem rowS_succ {ep : Int32} {n : Nat} {cs : Nat → ARun} {k N : Nat} {r : Nat → Int32} (h : ∀ i, i < N → r i = rowS ep n cs k i) : ∀ i, i < N → upd (upd (upd (upd r (3 + 4 * k) (aF (cs k))) (4 + 4 * k) (aB (cs k))) (5 + 4 * k) (aC (cs k))) (6 + 4 * k) (cs k).2.2.2 i = rowS ep n cs (k + 1) i := by
  intro i hi
  have fin : ∀ q, q < 4 → i = 3 + q + 4 * k → rowS ep n cs (k + 1) i = fld (cs k) q := by
    intro q hq e
    unfold rowS
    rw [if_neg (by omega), if_neg (by omega), if_pos (by omega), show (i - 3) / 4 = k by omega, show (i - 3) % 4 = q by omega]
  by_cases c3 : i = 6 + 4 * k
  · rw [fin 3 (by omega) (by omega), c3, upd_s]; rfl
  rw [upd_n c3]
  by_cases c2 : i = 5 + 4 * k
  · rw [fin 2 (by omega) (by omega), c2, upd_s]; rfl
  rw [upd_n c2]
  by_cases c1 : i = 4 + 4 * k
  · rw [fin 1 (by omega) (by omega), c1, upd_s]; rfl
  rw [upd_n c1]
  by_cases c0 : i = 3 + 4 * k
  · rw [fin 0 (by omega) (by omega), c0, upd_s]; rfl
  rw [upd_n c0, h i hi]
  unfold rowS
  by_cases d1 : i = 1
  · rw [if_pos d1, if_pos d1]
  rw [if_neg d1, if_neg d1]
  by_cases d2 : i = 2
  · rw [if_pos d2, if_pos d2]
  rw [if_neg d2, if_neg d2]
  by_cases d3 : 3 ≤ i ∧ i < 3 + 4 * k
  · rw [if_pos d3, if_pos (by omega)]
  · rw [if_neg d3, if_neg (by omega)]
theorem rowS_zero {ep : Int32} {n N : Nat} {cs : Nat → ARun} {r : Nat → Int32} (h : ∀ i, i < N → r i = 0) : ∀ i, i < N → upd (upd r 1 ep) 2 (nI n) i = rowS ep n cs 0 i := by
  intro i hi
  unfold rowS
  by_cases c2 : i = 2
  · rw [c2, upd_s, if_neg (by omega), if_pos rfl]
  rw [upd_n c2]
  by_cases c1 : i = 1
  · rw [c1, upd_s, if_pos rfl]
  rw [upd_n c1, if_neg c1, if_neg c2, if_neg (by omega)]
  exact h i hi
/-- which superblock: the last bit of the epoch -/
def pb (e : Int32) : Nat := if e &&& 1 = 0 then 0 else 1
theorem and1 (e : Int32) : e &&& 1 = nI (pb e) := by
  have h : e &&& 1 = 0 ∨ e &&& 1 = 1 := by
    have h1 : (e &&& 1).toBitVec = BitVec.setWidth 32 (BitVec.ofBool (e.toBitVec.getLsbD 0)) := by
      rw [Int32.toBitVec_and]
      exact BitVec.and_one_eq_setWidth_ofBool_getLsbD
    cases hb : e.toBitVec.getLsbD 0 with
    | false => rw [hb] at h1; exact Or.inl (Int32.toBitVec_inj.mp h1)
    | true => rw [hb] at h1; exact Or.inr (Int32.toBitVec_inj.mp h1)
  unfold pb
  rcases h with h | h
  · rw [if_pos h, h]; rfl
  · rw [if_neg (by rw [h]; decide), h]; rfl
theorem pb_lt (e : Int32) : pb e < 2 := by unfold pb; split <;> omega
theorem c_setRow' {s : gS} {Q : gS → Prop} {i : Nat} {x : Int32} (hi : i < 40) (h : ∀ s', Fr [] [1] s s' → s'.2 1 = upd (s.2 1) i x → Q s') : wp_Disk_setRow (nI i) x s Q :=
  c_setRow hi (h _ (Fr_a (Fr_refl _ _ _) (by decide)) (p2s _ _ _ _))
theorem c_store {bl wd mm fn : Nat} {s : gS} {D : Nat → Nat → Int32} (hB : BC s bl wd mm fn D) {n : Nat} {cs : Nat → ARun} (hR : RC s D n cs) (hn : n ≤ (wd - 3) / 4) (hpos : ∀ i, i < n → 0 < (cs i).2.2.1) {cut : Nat} (h6 : s.1 6 = nI cut) (hcut : cut ≤ 10000) {e : Int32} {Q : Int32 → gS → Prop} (h1 : cut = 1 → ∀ s', Fr [5, 6] [0, 1] s s' → BC s' bl wd mm fn D → s'.1 5 = s.1 5 → Q 0 s') (h2 : cut ≠ 1 → ∀ s', Fr [5, 6] [0, 1] s s' → BC s' bl wd mm fn (wrB D wd (pb e) (rowS e n cs n)) → s'.1 5 = s.1 5 + 1 → s'.1 6 = nI (cut - 1) → Q 1 s') : wp_Superblocks_store_6 e s Q := by
  have hz := hB.2.2.2.2.1
  have h9 := hR.2.1
  unfold wp_Superblocks_store_6
  refine c_clearRow (fun f hf => ?_)
  refine c_setRow' (i := 1) (by omega) (fun s1 hF1 e1 => ?_)
  rw [hF1.1 9 (by decide), show (s.1, ua s.2 1 f).1 9 = s.1 9 from rfl, hR.1]
  refine c_setRow' (i := 2) (by omega) (fun s2 hF2 e2 => ?_)
  have key : ∀ (m k : Nat) (si : gS), k + m = n → Fr [] [1] s si → (∀ i, i < 40 → si.2 1 i = rowS e n cs k i) → wl_Superblocks_store_6_30 Q (fun v24 s23 => wp_Disk_writeRow (e &&& 1) s23 (fun r26 s25 => narrow .boolean (.int r26) = .int r26 ∧ (Q r26 s25))) e (m + 1) (nI k) si := by
    intro m
    induction m with
    | zero =>
      intro k si hk hF hrow
      have : k = n := by omega
      subst this
      refine br_t (by rw [hF.1 9 (by decide), hR.1]; (first | omega | ((simp (disch := omega) only [li0, li1, li2, li3, li4, li5, li9, li11, li40, li100, li200, li8000, li10000, lt_nI, le_nI, eq_nI]); done) | ((simp (disch := omega) only [li0, li1, li2, li3, li4, li5, li9, li11, li40, li100, li200, li8000, li10000, lt_nI, le_nI, eq_nI]); omega))) ?_
      rw [and1]
      have hp := pb_lt e
      refine c_writeRow (BC_fr hB hF (by decide) (by decide)) (cut := cut) (by omega) ((hF.1 6 (by decide)).trans h6) hcut (fun c => ⟨rfl, ?_⟩) (fun c f1 hB1 => ⟨rfl, ?_⟩)
      · have hF3 : Fr [5, 6] [0, 1] s (up si.1 6 0, si.2) := Fr_u (Fr_mono hF (by decide) (by decide)) (by decide)
        refine h1 c _ hF3 (BC_fr hB (Fr_u (X := [6]) (Y := [1]) (Fr_mono hF (by decide) (by decide)) (by decide)) (by decide) (by decide)) ?_
        show up si.1 6 0 5 = _
        rw [up_n rfl]; exact hF.1 5 (by decide)
      · refine h2 c _ (Fr_a (s' := (up (up si.1 6 _) 5 _, si.2)) (Fr_u (s' := (up si.1 6 _, si.2)) (Fr_u (Fr_mono hF (by decide) (by decide)) (by decide)) (by decide)) (by decide)) ?_ ?_ ?_
        · exact BC_D hB1 (fun b i hb hi => wrB_congr rfl (fun j hj => hrow j (by omega)) hi)
        · show up (up si.1 6 (nI (cut - 1))) 5 (si.1 5 + 1) 5 = _
          rw [up_s, hF.1 5 (by decide)]
        · show up (up si.1 6 (nI (cut - 1))) 5 (si.1 5 + 1) 6 = _
          rw [up_n rfl, up_s]
    | succ m ih =>
      intro k si hk hF hrow
      have hr := hR.2.2 k (by omega)
      have hp := hpos k (by omega)
      refine br_f (by rw [hF.1 9 (by decide), hR.1]; (first | omega | ((simp (disch := omega) only [li0, li1, li2, li3, li4, li5, li9, li11, li40, li100, li200, li8000, li10000, lt_nI, le_nI, eq_nI]); done) | ((simp (disch := omega) only [li0, li1, li2, li3, li4, li5, li9, li11, li40, li100, li200, li8000, li10000, lt_nI, le_nI, eq_nI]); omega))) ?_
      intro v8 hv8
      rw [li3, li4, pk_mul, nI_add] at hv8
      subst hv8
      rw [cl_nI (n := k) (by omega)]
      refine ⟨vp_in_nI (by omega) (by omega), ?_⟩
      rw [li0, nI_add, hF.2 3 (by decide), (hr.1.2.2 hp).1]
      refine c_setRow' (by omega) (fun sa hFa ea => ?_)
      refine ⟨vp_in_nI (by omega) (by omega), ?_⟩
      rw [nI_1, hFa.2 4 (by decide), hF.2 4 (by decide), (hr.1.2.2 hp).2.1]
      refine c_setRow' (by omega) (fun sb hFb eb => ?_)
      refine ⟨vp_in_nI (by omega) (by omega), ?_⟩
      rw [li2, nI_add, hFb.2 5 (by decide), hFa.2 5 (by decide), hF.2 5 (by decide), hr.1.1]
      refine c_setRow' (by omega) (fun sc hFc ec => ?_)
      refine ⟨vp_in_nI (by omega) (by omega), ?_⟩
      rw [li3, nI_add, hFc.2 6 (by decide), hFb.2 6 (by decide), hFa.2 6 (by decide), hF.2 6 (by decide), hr.1.2.1]
      refine c_setRow' (by omega) (fun sd hFd ed => ?_)
      (intro v hv; subst hv)
      rw [nI_1]
      refine ih (k + 1) sd (by omega) (Fr_trans hF (Fr_trans hFa (Fr_trans hFb (Fr_trans hFc hFd)))) ?_
      rw [ed, ec, eb, ea, show 3 + k * 4 + 0 = 3 + 4 * k by omega, show 3 + k * 4 + 1 = 4 + 4 * k by omega, show 3 + k * 4 + 2 = 5 + 4 * k by omega, show 3 + k * 4 + 3 = 6 + 4 * k by omega]
      exact rowS_succ hrow
  have hF0 : Fr [] [1] s (s.1, ua s.2 1 f) := Fr_a (Fr_refl _ _ _) (by decide)
  refine ⟨n + 1, key n 0 s2 (by omega) (Fr_trans hF0 (Fr_trans hF1 hF2)) ?_⟩
  rw [e2, e1, p2s]
  exact rowS_zero hf
def pw (D : Nat → Nat → Int32) (wd : Nat) (e : Int32) (rs : List ARun) : Nat → Nat → Int32 := wrB D wd (pb e) (rowS e rs.length (getF rs) rs.length)
theorem pw_out {D : Nat → Nat → Int32} {wd : Nat} {e : Int32} {rs : List ARun} {x i : Nat} (h : 2 ≤ x) : pw D wd e rs x i = D x i := wrB_n (by have := pb_lt e; omega)
theorem RC_pw {bl wd : Nat} {s : gS} {D : Nat → Nat → Int32} {e : Int32} {rs : List ARun} (hw : 11 ≤ wd ∧ wd ≤ 40) (hok : ∀ r, r ∈ rs → RunOK bl wd D r) (hR : RC s D rs.length (getF rs)) : RC s (pw D wd e rs) rs.length (getF rs) :=
  RC_agree hw hR (fun i hi _ => hok _ (getF_mem hi)) (fun i hi x hx k => (pw_out ((hok _ (getF_mem hi)).2.2.2.2.1 x hx).1).symm)
theorem runOK_pw {bl wd : Nat} {D : Nat → Nat → Int32} {e : Int32} {rs : List ARun} (hok : ∀ r, r ∈ rs → RunOK bl wd D r) : ∀ r, r ∈ rs → RunOK bl wd (pw D wd e rs) r :=
  fun r hr => runOK_agree (fun x hx k => (pw_out ((hok r hr).2.2.2.2.1 x hx).1).symm) (hok r hr)
theorem c_nextEpoch {bl wd mm fn : Nat} {ep : Int32} {syn : Nat → Bool} {s : gS} {D : Nat → Nat → Int32} {wr : Int32} {cut : Nat} {km : List Int32} {rs : List ARun} (hL : LC bl wd mm fn ep syn s D wr cut km rs) (hok : ∀ r, r ∈ rs → RunOK bl wd D r) (hlen : rs.length ≤ (wd - 3) / 4) (hcut : cut ≤ 10000) {Q : Int32 → gS → Prop} (hc : cut = 1 → ∀ s', DC bl wd mm fn s' D wr → Q (-9) s') (hd : cut ≠ 1 → ∀ s', LC bl wd mm fn (ep + 1) (mks rs) s' (pw D wd (ep + 1) rs) (wr + 1) (cut - 1) km rs → Q 0 s') : wp_SpillQueue_writeNextEpoch s Q := by
  obtain ⟨hB, h2, h1, h5, h6, h7, hM, hR, hsy⟩ := hL
  have hz := hB.2.2.2.2.1
  unfold wp_SpillQueue_writeNextEpoch
  (intro v hv; subst hv)
  rw [h1]
  have hF0 : Fr [1] [] s (up s.1 1 (ep + 1), s.2) := Fr_u (Fr_refl _ _ _) (by decide)
  refine c_store (BC_fr hB hF0 (by decide) (by decide)) (RC_fr hR hF0 (by decide) (by decide)) hlen (fun i hi => (hok _ (getF_mem hi)).2.2.1) (cut := cut) ((hF0.1 6 (by decide)).trans h6) hcut (fun c s1 hF1 hB1 e5 => ?_) (fun c s1 hF1 hB1 e5 e6 => ?_)
  · refine br_nf rfl ?_
    refine c_off (fun f hf => hc c _ ⟨?_, ?_, ?_⟩)
    · exact BC_fr hB1 (Fr_a (X := [1, 2, 6, 7, 9]) (Y := [10]) (s' := (up (up (up (up (up s1.1 2 0) 1 0) 7 0) 9 0) 6 0, s1.2)) ⟨fun q hq => by simp at hq; simp [up_i, hq], fun q _ => rfl⟩ (by decide)) (by decide) (by decide)
    · simp [up_i]
    · show up (up (up (up (up s1.1 2 0) 1 0) 7 0) 9 0) 6 0 5 = _
      simp only [up_i, Nat.reduceEqDiff, if_false]
      rw [e5, hF0.1 5 (by decide), h5]
  · refine br_nt (by decide) ?_
    have hR1 := RC_pw (e := ep + 1) ⟨by omega, by omega⟩ hok (RC_fr (RC_fr hR hF0 (by decide) (by decide)) hF1 (by decide) (by decide))
    refine c_clear16 (fun f hf => ?_)
    have hF2 : Fr [] [10] s1 (s1.1, ua s1.2 10 f) := Fr_a (Fr_refl _ _ _) (by decide)
    refine c_mark16 (BC_fr hB1 hF2 (by decide) (by decide)) (RC_fr hR1 hF2 (by decide) (by decide)) (fun i hi => runOK_pw hok _ (getF_mem hi)) (p := fun _ => false) (fun j hj => by rw [p2s]; exact hf j hj) (fun f1 hf1 => ?_)
    have hF3 : Fr [] [10] s1 (s1.1, ua (ua s1.2 10 f) 10 f1) := Fr_a (s' := (s1.1, ua s1.2 10 f)) hF2 (by decide)
    refine hd c _ ⟨BC_fr hB1 hF3 (by decide) (by decide), ?_, ?_, ?_, ?_, ?_, ?_, RC_fr hR1 hF3 (by decide) (by decide), ?_⟩
    · show s1.1 2 = _
      rw [hF1.1 2 (by decide), hF0.1 2 (by decide), h2]
    · show s1.1 1 = _
      rw [hF1.1 1 (by decide)]; exact up_s s.1 1 (ep + 1)
    · show s1.1 5 = _
      rw [e5, hF0.1 5 (by decide), h5]
    · exact e6
    · show s1.1 7 = _
      rw [hF1.1 7 (by decide), hF0.1 7 (by decide), h7]
    · rw [hF3.2 2 (by decide), hF1.2 2 (by decide)]; exact hM
    · rw [p2s]
      exact setH_congr hf1 (fun j _ => by simp [mks])
