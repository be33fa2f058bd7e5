/-! The reference: the superblock, the least key, taking, size. -/
theorem m_copySyn {t : gS} {p : Nat → Bool} (hp : SetH (t.2 7) p) {Q : gS → Prop} (h : ∀ f, SetH f p → Q (t.1, ua t.2 6 f)) : ∃ n39 : Nat, wl_M_SpillQueueModel_writeSuper_143 Q (fun v41 s40 => Q s40) n39 0 t := by
  have key : ∀ (m i : Nat) (f : Nat → Int32), i + m = 200 → (∀ j, j < i → f j = bI (p j)) → wl_M_SpillQueueModel_writeSuper_143 Q (fun v41 s40 => Q s40) (m + 1) (nI i) (t.1, ua t.2 6 f) := by
    intro m
    induction m with
    | zero =>
      intro i f hi hf
      exact br_t (by (first | omega | ((simp (disch := omega) only [li0, li1, li2, li3, li4, li5, li9, li11, li40, li100, li200, li8000, li10000, lt_nI, le_nI, eq_nI]); done) | ((simp (disch := omega) only [li0, li1, li2, li3, li4, li5, li9, li11, li40, li100, li200, li8000, li10000, lt_nI, le_nI, eq_nI]); omega))) (h f (fun j hj => hf j (by omega)))
    | succ m ih =>
      intro i f hi hf
      refine br_f (by (first | omega | ((simp (disch := omega) only [li0, li1, li2, li3, li4, li5, li9, li11, li40, li100, li200, li8000, li10000, lt_nI, le_nI, eq_nI]); done) | ((simp (disch := omega) only [li0, li1, li2, li3, li4, li5, li9, li11, li40, li100, li200, li8000, li10000, lt_nI, le_nI, eq_nI]); omega))) ?_
      refine ⟨vp_in_nI (by omega) (by omega), ?_⟩
      intro v hv
      rw [cl_nI (by omega), p2n rfl, hp i (by omega)] at hv
      subst hv
      refine ⟨vp_in_nI (by omega) (by omega), ?_⟩
      (intro v hv; subst hv)
      have := ih (i + 1) (upd f i (bI (p i))) (by omega) (fun j hj => by
        by_cases e : j = i
        · rw [e, upd_s]
        · rw [upd_n e]; exact hf j (by omega))
      show wl_M_SpillQueueModel_writeSuper_143 Q _ (m + 1) (nI i + 1) (t.1, ua (ua t.2 6 f) 6 (upd (ua t.2 6 f 6) (nI i).toNatClampNeg (vp_nar .boolean (bI (p i)))))
      rw [ua_ua, ua_s, cl_nI (by omega), nbI, nI_1]
      exact this
  refine ⟨201, ?_⟩
  have := key 200 0 (t.2 6) rfl (fun j hj => absurd hj (by omega))
  rw [ua_id] at this
  exact this
theorem m_writeSuper {bl wd mm fn : Nat} {ep : Int32} {syn : Nat → Bool} {t : gS} {D : Nat → Nat → Int32} {wr : Int32} {cut : Nat} {km : List Int32} {rs : List ARun} (hL : LM bl wd mm fn ep syn t D wr cut km rs) (hok : ∀ r, r ∈ rs → RunOK bl wd D r) (hlen : rs.length ≤ (wd - 3) / 4) (hcut : cut ≤ 10000) {Q : gS → Prop} (hc : cut = 1 → ∀ t', t'.1 0 = t.1 0 → OM bl wd mm fn t' D wr → Q t') (hd : cut ≠ 1 → ∀ t', t'.1 0 = t.1 0 → LM bl wd mm fn (ep + 1) (mks rs) t' (pw D wd (ep + 1) rs) (wr + 1) (cut - 1) km rs → Q t') : wp_M_SpillQueueModel_writeSuper t Q := by
  have hL0 := hL
  obtain ⟨hB, h1, h8, h9, h11, h6, h7, hM, hR, hsy⟩ := hL
  have hz := hB.2.2.2.2.1
  have hrs9 := hR.2.1
  unfold wp_M_SpillQueueModel_writeSuper
  refine m_clearRow (fun f hf => ?_)
  rw [show ((t.1, ua t.2 8 f) : gS).1 11 = t.1 11 from rfl, show ((t.1, ua t.2 8 f) : gS).1 12 = t.1 12 from rfl, h11, hR.1, p2s]
  (intro v hv; subst hv)
  refine ⟨vp_in_nI (n := 1) (by omega) (by omega), ?_⟩
  (intro v hv; subst hv)
  refine ⟨vp_in_nI (n := 2) (by omega) (by omega), ?_⟩
  intro f7 hf7
  rw [show (1 : Int32).toNatClampNeg = 1 from by decide] at hf7
  subst hf7
  rw [show (2 : Int32).toNatClampNeg = 2 from by decide]
  show ∃ n25 : Nat, wl_M_SpillQueueModel_writeSuper_28 Q _ n25 0 (t.1, ua (ua t.2 8 f) 8 (upd (upd f 1 (ep + 1)) 2 (nI rs.length)))
  rw [ua_ua]
  generalize hK : (fun (v27 : Int32) (s26 : gS) => wp_M_SpillQueueModel_write (((s26.1 11) + 1) &&& 1) s26 (fun s28 => (((s28.1 9) = 0 → ∀ v31 : Int32, v31 = (s28.1 11) + 1 → wp_M_SpillQueueModel_markTaken (up s28.1 11 (v31), s28.2) (fun s32 => ∃ n39 : Nat, wl_M_SpillQueueModel_writeSuper_143 Q (fun v41 s40 => Q s40) n39 0 s32)) ∧ (¬ (s28.1 9) = 0 → Q s28)))) = K
  have fin : ∀ tk : gS, Fr [] [8] t tk → (∀ i, i < 40 → tk.2 8 i = rowS (ep + 1) rs.length (getF rs) rs.length i) → K (nI rs.length) tk := by
    intro tk hF hrow
    rw [← hK]
    show wp_M_SpillQueueModel_write (((tk.1 11) + 1) &&& 1) tk _
    rw [hF.1 11 (by decide), h11, and1]
    have hp := pb_lt (ep + 1)
    refine m_write (BM_fr hB hF (by decide) (by decide)) (cut := cut) (by omega) ((hF.1 9 (by decide)).trans h9) ((hF.1 7 (by decide)).trans h7) hcut (fun c => ?_) (fun c f1 hB1 => ?_)
    · refine br_f (by show ¬ up tk.1 9 1 9 = 0; rw [up_s]; decide) ?_
      have hF2 : Fr [9] [8] t (up tk.1 9 1, tk.2) := Fr_u (Fr_mono hF (by decide) (by decide)) (by decide)
      refine hc c _ (hF2.1 0 (by decide)) ⟨BM_fr hB hF2 (by decide) (by decide), (hF2.1 1 (by decide)).trans h1, up_s tk.1 9 1, (hF2.1 6 (by decide)).trans h6⟩
    · have hF2 : Fr [6, 7] [0, 8] t (up (up tk.1 7 (nI (cut - 1))) 6 (tk.1 6 + 1), ua tk.2 0 f1) := Fr_a (s' := (up (up tk.1 7 _) 6 _, tk.2)) (Fr_u (s' := (up tk.1 7 _, tk.2)) (Fr_u (Fr_mono hF (by decide) (by decide)) (by decide)) (by decide)) (by decide)
      have hBp : BM (up (up tk.1 7 (nI (cut - 1))) 6 (tk.1 6 + 1), ua tk.2 0 f1) bl wd mm fn (pw D wd (ep + 1) rs) := BM_D hB1 (fun b i hb hi => wrB_congr rfl (fun j hj => hrow j (by omega)) hi)
      have e6 : (up (up tk.1 7 (nI (cut - 1))) 6 (tk.1 6 + 1)) 6 = wr + 1 := by rw [up_s, hF.1 6 (by decide), h6]
      have e7 : (up (up tk.1 7 (nI (cut - 1))) 6 (tk.1 6 + 1)) 7 = nI (cut - 1) := by rw [up_n rfl, up_s]
      generalize hts : ((up (up tk.1 7 (nI (cut - 1))) 6 (tk.1 6 + 1), ua tk.2 0 f1) : gS) = ts at *
      have e6 : ts.1 6 = wr + 1 := by rw [← hts]; exact e6
      have e7 : ts.1 7 = nI (cut - 1) := by rw [← hts]; exact e7
      refine br_t ((hF2.1 9 (by decide)).trans h9) ?_
      rw [hF2.1 11 (by decide), h11]
      (intro v hv; subst hv)
      have hF3 : Fr [11] [] ts (up ts.1 11 (ep + 1), ts.2) := Fr_u (Fr_refl _ _ _) (by decide)
      have hR3 := RM_fr (RM_fr hR hF2 (by decide) (by decide)) hF3 (by decide) (by decide)
      have hB3 := BM_fr hBp hF3 (by decide) (by decide)
      refine m_markTaken hB3 hR3 (fun i hi => runOK_pw hok _ (getF_mem hi)) (fun f2 hf2 => ?_)
      refine m_copySyn (p := mks rs) (by rw [p2s]; exact hf2) (fun f3 hf3 => ?_)
      have hF4 : Fr [11] [6, 7] ts (up ts.1 11 (ep + 1), ua (ua ts.2 7 f2) 6 f3) := Fr_a (s' := (up ts.1 11 (ep + 1), ua ts.2 7 f2)) (Fr_a (s' := (up ts.1 11 (ep + 1), ts.2)) (Fr_mono hF3 (by decide) (by decide)) (by decide)) (by decide)
      refine hd c _ ?_ ⟨BM_fr hBp hF4 (by decide) (by decide), ?_, ?_, ?_, ?_, ?_, ?_, MM_fr (MM_fr hM hF2 (by decide) (by decide)) hF4 (by decide) (by decide), RM_fr (RM_fr hR hF2 (by decide) (by decide)) hF4 (by decide) (by decide), ?_⟩
      · exact (hF4.1 0 (by decide)).trans (hF2.1 0 (by decide))
      · exact ((hF4.1 1 (by decide)).trans (hF2.1 1 (by decide))).trans h1
      · exact ((hF4.1 8 (by decide)).trans (hF2.1 8 (by decide))).trans h8
      · exact ((hF4.1 9 (by decide)).trans (hF2.1 9 (by decide))).trans h9
      · exact up_s ts.1 11 (ep + 1)
      · exact (hF4.1 6 (by decide)).trans e6
      · exact (hF4.1 7 (by decide)).trans e7
      · rw [p2s]; exact hf3
  have key : ∀ (m k : Nat) (tk : gS), k + m = rs.length → Fr [] [8] t tk → (∀ i, i < 40 → tk.2 8 i = rowS (ep + 1) rs.length (getF rs) k i) → wl_M_SpillQueueModel_writeSuper_28 Q K (m + 1) (nI k) tk := by
    intro m
    induction m with
    | zero =>
      intro k tk hk hF hrow
      have hk : k = rs.length := by omega
      subst hk
      exact br_t (by rw [hF.1 12 (by decide), hR.1]; (first | omega | ((simp (disch := omega) only [li0, li1, li2, li3, li4, li5, li9, li11, li40, li100, li200, li8000, li10000, lt_nI, le_nI, eq_nI]); done) | ((simp (disch := omega) only [li0, li1, li2, li3, li4, li5, li9, li11, li40, li100, li200, li8000, li10000, lt_nI, le_nI, eq_nI]); omega))) (fin tk hF hrow)
    | succ m ih =>
      intro k tk hk hF hrow
      have hr := hR.2.2 k (by omega)
      refine br_f (by rw [hF.1 12 (by decide), hR.1]; (first | omega | ((simp (disch := omega) only [li0, li1, li2, li3, li4, li5, li9, li11, li40, li100, li200, li8000, li10000, lt_nI, le_nI, eq_nI]); done) | ((simp (disch := omega) only [li0, li1, li2, li3, li4, li5, li9, li11, li40, li100, li200, li8000, li10000, lt_nI, le_nI, eq_nI]); omega))) ?_
      rw [cl_nI (n := k) (by omega), hF.2 2 (by decide), hF.2 3 (by decide), hF.2 4 (by decide), hF.2 5 (by decide), hr.1, hr.2.1, hr.2.2.1, hr.2.2.2, show (4 : Int32) * nI k = nI (4 * k) from pk_mul 4 k, show (3 : Int32) + nI (4 * k) = nI (3 + 4 * k) from nI_add 3 _, show (4 : Int32) + nI (4 * k) = nI (4 + 4 * k) from nI_add 4 _, show (5 : Int32) + nI (4 * k) = nI (5 + 4 * k) from nI_add 5 _, show (6 : Int32) + nI (4 * k) = nI (6 + 4 * k) from nI_add 6 _, cl_nI (n := 3 + 4 * k) (by omega), cl_nI (n := 4 + 4 * k) (by omega), cl_nI (n := 5 + 4 * k) (by omega), cl_nI (n := 6 + 4 * k) (by omega), nI_1]
      refine ⟨vp_in_nI (by omega) (by omega), ?_⟩
      (intro v hv; subst hv)
      refine ⟨vp_in_nI (by omega) (by omega), ?_⟩
      refine ⟨vp_in_nI (by omega) (by omega), ?_⟩
      (intro v hv; subst hv)
      refine ⟨vp_in_nI (by omega) (by omega), ?_⟩
      intro f15 e15
      refine ⟨vp_in_nI (by omega) (by omega), ?_⟩
      (intro v hv; subst hv)
      refine ⟨vp_in_nI (by omega) (by omega), ?_⟩
      intro f19 e19
      refine ⟨vp_in_nI (by omega) (by omega), ?_⟩
      (intro v hv; subst hv)
      refine ⟨vp_in_nI (by omega) (by omega), ?_⟩
      intro f23 e23
      (intro v hv; subst hv)
      refine ih (k + 1) _ (by omega) (Fr_a hF (by decide)) ?_
      rw [p2s, e23, e19, e15]
      exact rowS_succ hrow
  exact ⟨rs.length + 1, key rs.length 0 _ (by omega) (Fr_a (Fr_refl _ _ _) (by decide)) (by rw [p2s]; exact rowS_zero hf)⟩
def pAll (D : Nat → Nat → Int32) (rs : List ARun) : Option Nat := pick (fun _ => true) (fun i => aH D (getF rs i)) rs.length
theorem m_least {t : gS} {bl wd mm fn : Nat} {D : Nat → Nat → Int32} (hB : BM t bl wd mm fn D) {n : Nat} {cs : Nat → ARun} (hR : RM t n cs) {i : Nat} (hi : i < n) (hok : RunOK bl wd D (cs i)) {Q : Int32 → gS → Prop} (h : Q (aH D (cs i)) t) : wp_M_SpillQueueModel_least (nI i) t Q := by
  have hz := hB.2.2.2.2.1
  have h9 := hR.2.1
  have hr := hR.2.2 i hi
  have hh := runOK_head ⟨by omega, by omega⟩ hok
  have hb := hok.2.2.2.1
  unfold wp_M_SpillQueueModel_least
  rw [cl_nI (by omega), hr.1, hr.2.1, li2, nI_add]
  refine ⟨vp_in_nI (by omega) (by omega), ?_⟩
  refine ⟨vp_in_nI (by omega) (by omega), ?_⟩
  exact m_at hB hh.2.1 (by omega) h
theorem m_leastRun {t : gS} {bl wd mm fn : Nat} {D : Nat → Nat → Int32} (hB : BM t bl wd mm fn D) {rs : List ARun} (hR : RM t rs.length (getF rs)) (hok : ∀ r, r ∈ rs → RunOK bl wd D r) {Q : Int32 → gS → Prop} (h : Q (oI (pAll D rs)) t) : wp_M_SpillQueueModel_leastRun t Q := by
  have h9 := hR.2.1
  have hokF : ∀ i, i < rs.length → RunOK bl wd D (getF rs i) := fun i hi => hok _ (getF_mem hi)
  have key : ∀ (m i : Nat), i + m = rs.length → wl_M_SpillQueueModel_leastRun_4 Q (fun v13 v14 s12 => Q v13 s12) (m + 1) (oI (pick (fun _ => true) (fun i => aH D (getF rs i)) i)) (nI i) t := by
    intro m
    induction m with
    | zero =>
      intro i hi
      have hi : i = rs.length := by omega
      subst hi
      exact br_t (by rw [hR.1]; (first | omega | ((simp (disch := omega) only [li0, li1, li2, li3, li4, li5, li9, li11, li40, li100, li200, li8000, li10000, lt_nI, le_nI, eq_nI]); done) | ((simp (disch := omega) only [li0, li1, li2, li3, li4, li5, li9, li11, li40, li100, li200, li8000, li10000, lt_nI, le_nI, eq_nI]); omega))) h
    | succ m ih =>
      intro i hi
      have ih1 := ih (i + 1) (by omega)
      rw [wl_M_SpillQueueModel_leastRun_4, hR.1]
      refine br_f (by (first | omega | ((simp (disch := omega) only [li0, li1, li2, li3, li4, li5, li9, li11, li40, li100, li200, li8000, li10000, lt_nI, le_nI, eq_nI]); done) | ((simp (disch := omega) only [li0, li1, li2, li3, li4, li5, li9, li11, li40, li100, li200, li8000, li10000, lt_nI, le_nI, eq_nI]); omega))) ?_
      cases hp : pick (fun _ => true) (fun i => aH D (getF rs i)) i with
      | none =>
        refine br_t oI_neg ?_
        (intro v hv; subst hv)
        rw [nI_1]
        rw [pick_new (el := fun _ => true) rfl hp] at ih1
        exact ih1
      | some j =>
        have hj := (pick_lt hp).1
        refine br_f (oI_pos (by omega)) ?_
        refine m_least hB hR (by omega) (hokF i (by omega)) ?_
        refine m_least (i := j) hB hR (by omega) (hokF j (by omega)) ?_
        refine ⟨fun q => ?_, fun q => ?_⟩
        · (intro v hv; subst hv)
          rw [nI_1]
          rw [pick_keep (el := fun _ => true) rfl hp q] at ih1
          exact ih1
        · (intro v hv; subst hv)
          rw [nI_1]
          rw [pick_swap (el := fun _ => true) rfl hp q] at ih1
          exact ih1
  exact ⟨rs.length + 1, key rs.length 0 (by omega)⟩
/-- the least key of memory; -1: none -/
def lMem (km : List Int32) : Int32 := if km.length = 0 then -1 else keyMem km 0
theorem m_leastMem {t : gS} {km : List Int32} (hM : MM t km) (hl : km.length ≤ 100) (hf : Fall km) (hpos : ∀ k, k ∈ km → 0 ≤ k) {Q : Int32 → gS → Prop} (h : Q (lMem km) t) : wp_M_SpillQueueModel_leastInMemory t Q := by
  obtain ⟨kt, hp, h10, hH⟩ := hM
  have hle := hp.length_eq
  have hposT : ∀ i, i < kt.length → 0 ≤ kt.getD i 0 := fun i hi => hpos _ (hp.mem_iff.mp (getD_mem hi))
  have key : ∀ (m i : Nat), i + m = kt.length → wl_M_SpillQueueModel_leastInMemory_4 Q (fun v14 v15 s13 => Q v14 s13) (m + 1) (match pick (fun _ => true) (fun i => kt.getD i 0) i with | none => -1 | some j => kt.getD j 0) (nI i) t := by
    intro m
    induction m with
    | zero =>
      intro i hi
      have hi : i = kt.length := by omega
      subst hi
      refine br_t (by rw [h10]; (first | omega | ((simp (disch := omega) only [li0, li1, li2, li3, li4, li5, li9, li11, li40, li100, li200, li8000, li10000, lt_nI, le_nI, eq_nI]); done) | ((simp (disch := omega) only [li0, li1, li2, li3, li4, li5, li9, li11, li40, li100, li200, li8000, li10000, lt_nI, le_nI, eq_nI]); omega))) ?_
      cases hj : pick (fun _ => true) (fun i => kt.getD i 0) kt.length with
      | none =>
        have : kt.length = 0 := by
          rcases Nat.eq_zero_or_pos kt.length with q | q
          · exact q
          · have := pick_none hj 0 q; cases this
        unfold lMem at h
        rw [if_pos (by omega)] at h
        exact h
      | some j =>
        have hj1 := (pick_lt hj).1
        unfold lMem at h
        rw [if_neg (by omega)] at h
        have e : kt.getD j 0 = keyMem km 0 := by
          have hk0 : keyMem km 0 = km.getD (km.length - 1) 0 := rfl
          refine Int32.le_antisymm ?_ ?_
          · have hm : keyMem km 0 ∈ kt := hp.mem_iff.mpr (by rw [hk0]; exact getD_mem (by omega))
            obtain ⟨i, hi, e⟩ := List.getElem_of_mem hm
            have := pick_least hj i hi rfl
            rw [← e, ← getD_lt hi]; exact this
          · have hm : kt.getD j 0 ∈ km := hp.mem_iff.mp (getD_mem hj1)
            obtain ⟨i, hi, e⟩ := List.getElem_of_mem hm
            rw [← e, ← getD_lt hi, hk0]
            exact fall_get hf (by omega) (by omega)
        show Q (kt.getD j 0) t
        rw [e]; exact h
    | succ m ih =>
      intro i hi
      have ih1 := ih (i + 1) (by omega)
      rw [wl_M_SpillQueueModel_leastInMemory_4, h10]
      refine br_f (by (first | omega | ((simp (disch := omega) only [li0, li1, li2, li3, li4, li5, li9, li11, li40, li100, li200, li8000, li10000, lt_nI, le_nI, eq_nI]); done) | ((simp (disch := omega) only [li0, li1, li2, li3, li4, li5, li9, li11, li40, li100, li200, li8000, li10000, lt_nI, le_nI, eq_nI]); omega))) ?_
      rw [cl_nI (by omega), hH i (by omega)]
      cases hj : pick (fun _ => true) (fun i => kt.getD i 0) i with
      | none =>
        refine br_t (by show (-1 : Int32) < 0; decide) ?_
        refine ⟨vp_in_nI (by omega) (by omega), ?_⟩
        (intro v hv; subst hv)
        (intro v hv; subst hv)
        rw [nI_1]
        rw [pick_new (el := fun _ => true) rfl hj] at ih1
        exact ih1
      | some j =>
        have hj1 := (pick_lt hj).1
        refine br_f (by show ¬ kt.getD j 0 < 0; exact Int32.not_lt.mpr (hposT j (by omega))) ?_
        refine ⟨vp_in_nI (by omega) (by omega), ?_⟩
        refine ⟨fun q => ?_, fun q => ?_⟩
        · (intro v hv; subst hv)
          rw [nI_1]
          rw [pick_keep (el := fun _ => true) rfl hj q] at ih1
          exact ih1
        · refine ⟨vp_in_nI (by omega) (by omega), ?_⟩
          (intro v hv; subst hv)
          (intro v hv; subst hv)
          rw [nI_1]
          rw [pick_swap (el := fun _ => true) rfl hj q] at ih1
          exact ih1
  exact ⟨kt.length + 1, key kt.length 0 (by omega)⟩
theorem m_size0 {t : gS} {n : Nat} {cs : Nat → ARun} (hR : RM t n cs) {k : Nat} (hk : t.1 10 = nI k) {Q : Int32 → gS → Prop} (h : Q (nI (k + sumC (fun _ => true) cs n)) t) : wp_M_SpillQueueModel_size0 t Q := by
  have h9 := hR.2.1
  have key : ∀ (m i : Nat), i + m = n → wl_M_SpillQueueModel_size0_7 Q (fun v8 v9 s7 => Q v8 s7) (m + 1) (nI (k + sumC (fun _ => true) cs i)) (nI i) t := by
    intro m
    induction m with
    | zero =>
      intro i hi
      have : i = n := by omega
      subst this
      exact br_t (by rw [hR.1]; (first | omega | ((simp (disch := omega) only [li0, li1, li2, li3, li4, li5, li9, li11, li40, li100, li200, li8000, li10000, lt_nI, le_nI, eq_nI]); done) | ((simp (disch := omega) only [li0, li1, li2, li3, li4, li5, li9, li11, li40, li100, li200, li8000, li10000, lt_nI, le_nI, eq_nI]); omega))) h
    | succ m ih =>
      intro i hi
      have hr := hR.2.2 i (by omega)
      have ih1 := ih (i + 1) (by omega)
      unfold sumC at ih1
      rw [wl_M_SpillQueueModel_size0_7, hR.1]
      refine br_f (by (first | omega | ((simp (disch := omega) only [li0, li1, li2, li3, li4, li5, li9, li11, li40, li100, li200, li8000, li10000, lt_nI, le_nI, eq_nI]); done) | ((simp (disch := omega) only [li0, li1, li2, li3, li4, li5, li9, li11, li40, li100, li200, li8000, li10000, lt_nI, le_nI, eq_nI]); omega))) ?_
      refine ⟨vp_in_nI (by omega) (by omega), ?_⟩
      rw [cl_nI (by omega), hr.2.2.1]
      (intro v hv; subst hv)
      (intro v hv; subst hv)
      rw [nI_add, nI_1, Nat.add_assoc]
      exact ih1
  unfold wp_M_SpillQueueModel_size0
  rw [hk]
  (intro v hv; subst hv)
  exact ⟨n + 1, key n 0 (by omega)⟩
/-! a key leaves run i -/
def aTake (wd : Nat) (rs : List ARun) (i : Nat) : List ARun := if (getF rs i).2.2.1 = 1 then rs.eraseIdx i else rs.set i (adv wd (getF rs i))
theorem getF_set {rs : List ARun} {i j : Nat} {r : ARun} (hi : i < rs.length) : getF (rs.set i r) j = updR (getF rs) i r j := by
  unfold updR getF List.getD
  rw [List.getElem?_set]
  by_cases c : j = i
  · rw [if_pos c, if_pos c.symm, if_pos (by omega)]; rfl
  · rw [if_neg c, if_neg (fun q => c q.symm)]
theorem RM_set {t t' : gS} {rs : List ARun} (hR : RM t rs.length (getF rs)) {i : Nat} (hi : i < rs.length) {r : ARun} (e12 : t'.1 12 = t.1 12) (eo : ∀ j, j ≠ i → t'.2 2 j = t.2 2 j ∧ t'.2 3 j = t.2 3 j ∧ t'.2 4 j = t.2 4 j ∧ t'.2 5 j = t.2 5 j) (er : t'.2 2 i = nI (r.1.headD 0) ∧ t'.2 3 i = nI r.2.1 ∧ t'.2 4 i = nI r.2.2.1 ∧ t'.2 5 i = r.2.2.2) : RM t' (rs.set i r).length (getF (rs.set i r)) := by
  rw [List.length_set]
  refine ⟨e12.trans hR.1, hR.2.1, fun j hj => ?_⟩
  rw [getF_set hi]
  by_cases c : j = i
  · subst c; rw [updR_s]; exact er
  · rw [updR_n c, (eo j c).1, (eo j c).2.1, (eo j c).2.2.1, (eo j c).2.2.2]; exact hR.2.2 j hj
theorem m_takeRun {t : gS} {bl wd mm fn : Nat} {D : Nat → Nat → Int32} (hB : BM t bl wd mm fn D) {rs : List ARun} (hR : RM t rs.length (getF rs)) {i : Nat} (hi : i < rs.length) (hok : RunOK bl wd D (getF rs i)) {k : Int32} {Q : Int32 → gS → Prop} (h : ∀ t', Fr [12] [2, 3, 4, 5] t t' → RM t' (aTake wd rs i).length (getF (aTake wd rs i)) → Q k t') : vp_in (nI i) 16 ∧ (∀ v9 : Int32, v9 = (t.2 4 (nI i).toNatClampNeg) - 1 → vp_in (nI i) 16 ∧ (vp_in (nI i) 16 ∧ (∀ v12 : Int32, v12 = (t.2 3 (nI i).toNatClampNeg) + 1 → vp_in (nI i) 16 ∧ (vp_in (nI i) 16 ∧ (((¬ ((upd (t.2 4) (nI i).toNatClampNeg v9) (nI i).toNatClampNeg) = 0 → vp_in (nI i) 16 ∧ (wp_M_SpillQueueModel_room (t.1, ua (ua t.2 4 (upd (t.2 4) (nI i).toNatClampNeg v9)) 3 (upd (t.2 3) (nI i).toNatClampNeg v12)) (fun r18 s17 => ((¬ ((upd (t.2 3) (nI i).toNatClampNeg v12) (nI i).toNatClampNeg) = r18 → Q k s17) ∧ (((upd (t.2 3) (nI i).toNatClampNeg v12) (nI i).toNatClampNeg) = r18 → vp_in (nI i) 16 ∧ (wp_M_SpillQueueModel_at (s17.2 2 (nI i).toNatClampNeg) 1 s17 (fun r22 s21 => vp_in (nI i) 16 ∧ (vp_in (nI i) 16 ∧ (Q k (s21.1, ua (ua s21.2 2 (upd (s21.2 2) (nI i).toNatClampNeg r22)) 3 (upd (s21.2 3) (nI i).toNatClampNeg 0))))))))))) ∧ (((upd (t.2 4) (nI i).toNatClampNeg v9) (nI i).toNatClampNeg) = 0 → wp_M_SpillQueueModel_dropRun (nI i) (t.1, ua (ua t.2 4 (upd (t.2 4) (nI i).toNatClampNeg v9)) 3 (upd (t.2 3) (nI i).toNatClampNeg v12)) (fun s25 => Q k s25)))))))) := by
  have hz := hB.2.2.2.2.1
  have h9 := hR.2.1
  have hr := hR.2.2 i hi
  have hk := runOK_cnt ⟨by omega, by omega⟩ hok
  have hh := runOK_head ⟨by omega, by omega⟩ hok
  have hb := hok.2.2.2.1
  have hc := hok.2.2.1
  rw [cl_nI (by omega), hr.2.2.1, hr.2.1, li1, pk_sub (by omega), nI_add]
  refine ⟨vp_in_nI (by omega) (by omega), ?_⟩
  (intro v hv; subst hv)
  refine ⟨vp_in_nI (by omega) (by omega), ?_⟩
  refine ⟨vp_in_nI (by omega) (by omega), ?_⟩
  (intro v hv; subst hv)
  refine ⟨vp_in_nI (by omega) (by omega), ?_⟩
  refine ⟨vp_in_nI (by omega) (by omega), ?_⟩
  rw [upd_s, upd_s]
  have hF : Fr [12] [2, 3, 4, 5] t (t.1, ua (ua t.2 4 (upd (t.2 4) i (nI ((getF rs i).2.2.1 - 1)))) 3 (upd (t.2 3) i (nI ((getF rs i).2.1 + 1)))) := Fr_a (s' := (t.1, ua t.2 4 _)) (Fr_a (Fr_refl _ _ _) (by decide)) (by decide)
  have hB1 := BM_fr hB hF (by decide) (by decide)
  have hRs : RM (t.1, ua (ua t.2 4 (upd (t.2 4) i (nI ((getF rs i).2.2.1 - 1)))) 3 (upd (t.2 3) i (nI ((getF rs i).2.1 + 1)))) (rs.set i ((getF rs i).1, (getF rs i).2.1 + 1, (getF rs i).2.2.1 - 1, (getF rs i).2.2.2)).length (getF (rs.set i ((getF rs i).1, (getF rs i).2.1 + 1, (getF rs i).2.2.1 - 1, (getF rs i).2.2.2))) := by
    refine RM_set hR hi rfl (fun j hj => ?_) ⟨?_, ?_, ?_, ?_⟩
    · simp [ua_i, upd_n hj]
    · simp only [ua_i, Nat.reduceEqDiff, if_true, if_false, reduceIte]; exact hr.1
    · simp only [ua_i, Nat.reduceEqDiff, if_true, if_false, reduceIte, upd_s]
    · simp only [ua_i, Nat.reduceEqDiff, if_true, if_false, reduceIte, upd_s]
    · simp only [ua_i, Nat.reduceEqDiff, if_true, if_false, reduceIte]; exact hr.2.2.2
  by_cases c1 : (getF rs i).2.2.1 = 1
  · refine br_nf (by rw [c1]; rfl) ?_
    refine m_dropRun hRs (by rw [List.length_set]; exact hi) (fun t1 hF1 hR1 => h t1 (Fr_trans hF hF1) ?_)
    unfold aTake
    rw [if_pos c1]
    rw [List.eraseIdx_set_eq] at hR1
    exact hR1
  · refine br_nt (by (first | omega | ((simp (disch := omega) only [li0, li1, li2, li3, li4, li5, li9, li11, li40, li100, li200, li8000, li10000, lt_nI, le_nI, eq_nI]); done) | ((simp (disch := omega) only [li0, li1, li2, li3, li4, li5, li9, li11, li40, li100, li200, li8000, li10000, lt_nI, le_nI, eq_nI]); omega))) ?_
    refine ⟨vp_in_nI (by omega) (by omega), ?_⟩
    refine m_room hB1 ?_
    by_cases c2 : (getF rs i).2.1 + 1 = wd - 2
    · refine br_nf (by rw [c2]) ?_
      refine ⟨vp_in_nI (by omega) (by omega), ?_⟩
      have e2 : ((t.1, ua (ua t.2 4 (upd (t.2 4) i (nI ((getF rs i).2.2.1 - 1)))) 3 (upd (t.2 3) i (nI ((getF rs i).2.1 + 1)))) : gS).2 2 i = nI ((getF rs i).1.headD 0) := by
        rw [p2n rfl, ua_n rfl]; exact hr.1
      rw [e2]
      refine m_at (i := 1) hB1 hh.2.1 (by omega) ?_
      refine ⟨vp_in_nI (by omega) (by omega), ?_⟩
      refine ⟨vp_in_nI (by omega) (by omega), ?_⟩
      refine h _ (Fr_a (s' := (_, ua _ 2 _)) (Fr_a hF (by decide)) (by decide)) ?_
      unfold aTake
      rw [if_neg c1]
      have ea : adv wd (getF rs i) = ((getF rs i).1.tail, 0, (getF rs i).2.2.1 - 1, (getF rs i).2.2.2) := by
        unfold adv; rw [if_pos ⟨by omega, by omega⟩]
      rw [ea]
      refine RM_set hR hi rfl (fun j hj => ?_) ⟨?_, ?_, ?_, ?_⟩
      · simp [ua_i, upd_n hj]
      · simp only [ua_i, Nat.reduceEqDiff, if_true, if_false, reduceIte, upd_s]; exact hh.2.2
      · simp only [ua_i, Nat.reduceEqDiff, if_true, if_false, reduceIte, upd_s]; rfl
      · simp only [ua_i, Nat.reduceEqDiff, if_true, if_false, reduceIte, upd_s]
      · simp only [ua_i, Nat.reduceEqDiff, if_true, if_false, reduceIte]; exact hr.2.2.2
    · refine br_nt (by (first | omega | ((simp (disch := omega) only [li0, li1, li2, li3, li4, li5, li9, li11, li40, li100, li200, li8000, li10000, lt_nI, le_nI, eq_nI]); done) | ((simp (disch := omega) only [li0, li1, li2, li3, li4, li5, li9, li11, li40, li100, li200, li8000, li10000, lt_nI, le_nI, eq_nI]); omega))) (h _ hF ?_)
      unfold aTake
      rw [if_neg c1]
      have ea : adv wd (getF rs i) = ((getF rs i).1, (getF rs i).2.1 + 1, (getF rs i).2.2.1 - 1, (getF rs i).2.2.2) := by
        unfold adv; rw [if_neg (by omega)]
      rw [ea]
      exact hRs
