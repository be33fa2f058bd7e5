/-! Spilling: the abstract course, what it keeps, and the class's. -/
def pL (lv : Int32) : ARun → Bool := fun r => decide (r.2.2.2 = lv)
def aLoop (bl wd fn : Nat) (syn : Nat → Bool) : Nat → (Nat → Nat → Int32) → Int32 → Nat → List Int32 → List ARun → Res
  | 0, D, wr, cut, km, rs => (0, D, wr, cut, km, rs)
  | f + 1, D, wr, cut, km, rs => match crow fn (getF rs) rs.length with
    | none => (0, D, wr, cut, km, rs)
    | some i => if (aMerge bl wd syn D wr cut km rs (pL (getF rs i).2.2.2) ((getF rs i).2.2.2 + 1)).1 = 0 then
        aLoop bl wd fn syn f (aMerge bl wd syn D wr cut km rs (pL (getF rs i).2.2.2) ((getF rs i).2.2.2 + 1)).2.1 (aMerge bl wd syn D wr cut km rs (pL (getF rs i).2.2.2) ((getF rs i).2.2.2 + 1)).2.2.1 (aMerge bl wd syn D wr cut km rs (pL (getF rs i).2.2.2) ((getF rs i).2.2.2 + 1)).2.2.2.1 (aMerge bl wd syn D wr cut km rs (pL (getF rs i).2.2.2) ((getF rs i).2.2.2 + 1)).2.2.2.2.1 (aMerge bl wd syn D wr cut km rs (pL (getF rs i).2.2.2) ((getF rs i).2.2.2 + 1)).2.2.2.2.2
      else if (aMerge bl wd syn D wr cut km rs (pL (getF rs i).2.2.2) ((getF rs i).2.2.2 + 1)).1 = -2 then (0, D, wr, cut, km, rs)
      else aMerge bl wd syn D wr cut km rs (pL (getF rs i).2.2.2) ((getF rs i).2.2.2 + 1)
def topL (cs : Nat → ARun) : Nat → Int32
  | 0 => 0
  | n + 1 => if (cs n).2.2.2 ≤ topL cs n then topL cs n else (cs n).2.2.2
def thenR (R : Res) (f : (Nat → Nat → Int32) → Int32 → Nat → List Int32 → List ARun → Res) : Res := if R.1 = 0 then f R.2.1 R.2.2.1 R.2.2.2.1 R.2.2.2.2.1 R.2.2.2.2.2 else R
def aSpill2 (bl wd fn : Nat) (syn : Nat → Bool) (D : Nat → Nat → Int32) (wr : Int32) (cut : Nat) (km : List Int32) (rs : List ARun) : Res := thenR (aMem bl wd syn D wr cut km rs) (aLoop bl wd fn syn 9)
def aAll (bl wd : Nat) (syn : Nat → Bool) (D : Nat → Nat → Int32) (wr : Int32) (cut : Nat) (km : List Int32) (rs : List ARun) : Res := aMerge bl wd syn D wr cut km rs (fun _ => true) (topL (getF rs) rs.length + 1)
def aSpill (bl wd fn : Nat) (syn : Nat → Bool) (D : Nat → Nat → Int32) (wr : Int32) (cut : Nat) (km : List Int32) (rs : List ARun) : Res := if rs.length < (wd - 3) / 4 then aSpill2 bl wd fn syn D wr cut km rs else thenR (aAll bl wd syn D wr cut km rs) (aSpill2 bl wd fn syn)
def WF (bl wd mm : Nat) (D : Nat → Nat → Int32) (cut : Nat) (km : List Int32) (rs : List ARun) : Prop := cut ≤ 10000 ∧ Fall km ∧ km.length ≤ mm ∧ (∀ k, k ∈ km → 0 ≤ k) ∧ rs.length ≤ (wd - 3) / 4 ∧ (∀ r, r ∈ rs → RunOK bl wd D r) ∧ (rs.length = (wd - 3) / 4 → ∃ r, r ∈ rs ∧ 0 ≤ r.2.2.2)
def WFR (bl wd mm : Nat) (R : Res) : Prop := R.1 ≠ -9 → WF bl wd mm R.2.1 R.2.2.2.1 R.2.2.2.2.1 R.2.2.2.2.2
theorem aMake_code (bl wd : Nat) (syn : Nat → Bool) (D : Nat → Nat → Int32) (wr : Int32) (cut : Nat) (km : List Int32) (rs : List ARun) (key : Nat → Int32) (count : Nat) (km' : List Int32) (rest : List ARun) (lv : Int32) : (aMake bl wd syn D wr cut km rs key count km' rest lv = (-2, D, wr, cut, km, rs)) ∨ (aMake bl wd syn D wr cut km rs key count km' rest lv).1 = -9 ∨ ((aMake bl wd syn D wr cut km rs key count km' rest lv).1 = 0 ∧ needN wd count ≤ (aFree bl syn rs).length ∧ aMake bl wd syn D wr cut km rs key count km' rest lv = (0, Dw wd (aFree bl syn rs) (needN wd count) count key D (needN wd count), wr + nI (needN wd count), cut - needN wd count, km', rest ++ [((aFree bl syn rs).take (needN wd count), 0, count, lv)])) := by
  unfold aMake
  by_cases c1 : (aFree bl syn rs).length < needN wd count
  · rw [if_pos c1]; exact Or.inl rfl
  · rw [if_neg c1]
    by_cases c2 : 1 ≤ cut ∧ cut ≤ needN wd count
    · rw [if_pos c2]; exact Or.inr (Or.inl rfl)
    · rw [if_neg c2]; exact Or.inr (Or.inr ⟨rfl, by omega, rfl⟩)
theorem aFree_nodup (bl : Nat) (syn : Nat → Bool) (rs : List ARun) : (aFree bl syn rs).Nodup := frs_nodup _ _
theorem aFree_len (bl : Nat) (syn : Nat → Bool) (rs : List ARun) : (aFree bl syn rs).length ≤ bl := frs_len _ _
theorem aFree_out' {bl : Nat} {syn : Nat → Bool} {rs : List ARun} {r : ARun} {x : Nat} (hr : r ∈ rs) (hx : x ∈ r.1) : x ∉ aFree bl syn rs := by
  obtain ⟨i, hi, e⟩ := List.getElem_of_mem hr
  have e' : getF rs i = r := by rw [← e]; simp [getF, List.getD, hi]
  exact aFree_out hi (by rw [e']; exact hx)
/-- what a new run leaves right -/
theorem wf_make {bl wd mm : Nat} {syn : Nat → Bool} {D : Nat → Nat → Int32} {wr : Int32} {cut : Nat} {km : List Int32} {rs : List ARun} {key : Nat → Int32} {count : Nat} {km' : List Int32} {rest : List ARun} {lv : Int32} (hw : 11 ≤ wd ∧ wd ≤ 40) (hbl : bl ≤ 200) (hW : WF bl wd mm D cut km rs) (hc : 1 ≤ count) (hkm : Fall km' ∧ km'.length ≤ mm ∧ ∀ k, k ∈ km' → 0 ≤ k) (hrest : ∀ r, r ∈ rest → r ∈ rs) (hlen : rest.length + 1 ≤ (wd - 3) / 4) (hlv : rest.length + 1 = (wd - 3) / 4 → 0 ≤ lv) : WFR bl wd mm (aMake bl wd syn D wr cut km rs key count km' rest lv) := by
  intro hne
  rcases aMake_code bl wd syn D wr cut km rs key count km' rest lv with e | e | ⟨-, hn, e⟩
  · rw [e]; exact hW
  · exact absurd e hne
  · rw [e]
    obtain ⟨w1, w2, w3, w4, w5, w6, w7⟩ := hW
    refine ⟨by show cut - _ ≤ 10000; omega, hkm.1, hkm.2.1, hkm.2.2, ?_, ?_, ?_⟩
    · show (rest ++ [_]).length ≤ _
      rw [List.length_append, List.length_singleton]; exact hlen
    · intro r hr
      rcases List.mem_append.mp hr with q | q
      · exact runOK_agree (fun x hx k => (Dw_out _ hn (aFree_out' (hrest r q) hx) k).symm) (w6 r (hrest r q))
      · rw [List.mem_singleton] at q
        subst q
        exact runOK_new hw hbl (aFree_nodup _ _ _) (fun x hx => aFree_mem hx) (aFree_len _ _ _) hc rfl hn
    · intro q
      have q : (rest ++ [((aFree bl syn rs).take (needN wd count), 0, count, lv)]).length = (wd - 3) / 4 := q
      rw [List.length_append, List.length_singleton] at q
      exact ⟨_, List.mem_append_right _ (List.mem_singleton.mpr rfl), hlv q⟩
theorem wf_mem {bl wd mm : Nat} {syn : Nat → Bool} {D : Nat → Nat → Int32} {wr : Int32} {cut : Nat} {km : List Int32} {rs : List ARun} (hw : 11 ≤ wd ∧ wd ≤ 40) (hbl : bl ≤ 200) (hW : WF bl wd mm D cut km rs) (hk : 1 ≤ km.length) (hl : rs.length < (wd - 3) / 4) : WFR bl wd mm (aMem bl wd syn D wr cut km rs) :=
  wf_make hw hbl hW hk ⟨List.Pairwise.nil, Nat.zero_le _, fun k hk => absurd hk (by simp)⟩ (fun r hr => hr) (by omega) (fun _ => by decide)
theorem sumC_pos' {bl wd : Nat} {D : Nat → Nat → Int32} {rs : List ARun} {p : ARun → Bool} (hok : ∀ r, r ∈ rs → RunOK bl wd D r) (hp : ∃ r, r ∈ rs ∧ p r = true) : 1 ≤ sumC (chF p rs) (getF rs) rs.length := by
  obtain ⟨r, hr, hpr⟩ := hp
  obtain ⟨i, hi, e⟩ := List.getElem_of_mem hr
  have e' : getF rs i = r := by rw [← e]; simp [getF, List.getD, hi]
  rcases Nat.eq_zero_or_pos (sumC (chF p rs) (getF rs) rs.length) with q | q
  · have := sumC_zero q i hi (by unfold chF; rw [e']; exact hpr)
    have := (hok _ (getF_mem hi)).2.2.1
    omega
  · exact q
theorem wf_merge {bl wd mm : Nat} {syn : Nat → Bool} {D : Nat → Nat → Int32} {wr : Int32} {cut : Nat} {km : List Int32} {rs : List ARun} {p : ARun → Bool} {lv : Int32} (hw : 11 ≤ wd ∧ wd ≤ 40) (hbl : bl ≤ 200) (hW : WF bl wd mm D cut km rs) (hp : ∃ r, r ∈ rs ∧ p r = true) (hl : (rs.filter (fun r => !p r)).length + 1 < (wd - 3) / 4) : WFR bl wd mm (aMerge bl wd syn D wr cut km rs p lv) :=
  wf_make hw hbl hW (sumC_pos' hW.2.2.2.2.2.1 hp) ⟨hW.2.1, hW.2.2.1, hW.2.2.2.1⟩ (fun r hr => (List.mem_filter.mp hr).1) (by omega) (fun q => by omega)
theorem cnt_take (lv : Int32) (rs : List ARun) (n : Nat) (hn : n ≤ rs.length) : cntL lv (getF rs) n = ((rs.take n).filter (pL lv)).length := by
  induction n with
  | zero => simp [cntL]
  | succ n ih =>
    have e : rs.take (n + 1) = rs.take n ++ [getF rs n] := by
      rw [List.take_succ]
      have : rs[n]? = some (getF rs n) := by simp [getF, List.getD, show n < rs.length by omega]
      rw [this]; rfl
    rw [cntL, ih (by omega), e, List.filter_append, List.length_append]
    congr 1
    by_cases c : (getF rs n).2.2.2 = lv
    · rw [if_pos c]; simp [List.filter, pL, c]
    · rw [if_neg c]; simp [List.filter, pL, c]
theorem flen (p : ARun → Bool) (l : List ARun) : (l.filter p).length + (l.filter (fun r => !p r)).length = l.length := by
  induction l with
  | nil => rfl
  | cons x t ih => simp only [List.filter_cons]; cases p x <;> simp <;> omega
theorem cnt_rest (lv : Int32) (rs : List ARun) : cntL lv (getF rs) rs.length + (rs.filter (fun r => !pL lv r)).length = rs.length := by
  rw [cnt_take lv rs rs.length (Nat.le_refl _), List.take_length]
  exact flen (pL lv) rs
theorem crow_some {fn : Nat} {rs : List ARun} {i : Nat} (h : crow fn (getF rs) rs.length = some i) : i < rs.length ∧ (∃ r, r ∈ rs ∧ pL (getF rs i).2.2.2 r = true) ∧ (rs.filter (fun r => !pL (getF rs i).2.2.2 r)).length + fn ≤ rs.length := by
  have hi := pick_lt h
  have h1 : fn ≤ cntL (getF rs i).2.2.2 (getF rs) rs.length := by have := hi.2; simpa [elW] using this
  have h2 := cnt_rest (getF rs i).2.2.2 rs
  exact ⟨hi.1, ⟨_, getF_mem hi.1, by simp [pL]⟩, by omega⟩
theorem aMerge_len {bl wd : Nat} {syn : Nat → Bool} {D : Nat → Nat → Int32} {wr : Int32} {cut : Nat} {km : List Int32} {rs : List ARun} {p : ARun → Bool} {lv : Int32} (h : (aMerge bl wd syn D wr cut km rs p lv).1 = 0) : (aMerge bl wd syn D wr cut km rs p lv).2.2.2.2.2.length = (rs.filter (fun r => !p r)).length + 1 := by
  rcases aMake_code bl wd syn D wr cut km rs (mKey wd D (chF p rs) rs.length (getF rs)) (sumC (chF p rs) (getF rs) rs.length) km (rs.filter (fun r => !p r)) lv with e | e | ⟨-, hn, e⟩
  · unfold aMerge at h; rw [e] at h; cases h
  · unfold aMerge at h; rw [e] at h; cases h
  · unfold aMerge; rw [e]; simp
theorem aMerge_code (bl wd : Nat) (syn : Nat → Bool) (D : Nat → Nat → Int32) (wr : Int32) (cut : Nat) (km : List Int32) (rs : List ARun) (p : ARun → Bool) (lv : Int32) : (aMerge bl wd syn D wr cut km rs p lv) = (-2, D, wr, cut, km, rs) ∨ (aMerge bl wd syn D wr cut km rs p lv).1 = -9 ∨ (aMerge bl wd syn D wr cut km rs p lv).1 = 0 := by
  rcases aMake_code bl wd syn D wr cut km rs (mKey wd D (chF p rs) rs.length (getF rs)) (sumC (chF p rs) (getF rs) rs.length) km (rs.filter (fun r => !p r)) lv with e | e | ⟨e, -⟩
  · exact Or.inl e
  · exact Or.inr (Or.inl e)
  · exact Or.inr (Or.inr e)
theorem LC_fr {bl wd mm fn : Nat} {ep : Int32} {syn : Nat → Bool} {s s' : gS} {D : Nat → Nat → Int32} {wr : Int32} {cut : Nat} {km : List Int32} {rs : List ARun} (hL : LC bl wd mm fn ep syn s D wr cut km rs) (hF : Fr [] [1, 8, 9, 11, 12] s s') : LC bl wd mm fn ep syn s' D wr cut km rs := by
  obtain ⟨hB, h2, h1, h5, h6, h7, hM, hR, hsy⟩ := hL
  exact ⟨BC_fr hB hF (by decide) (by decide), (hF.1 _ (by decide)).trans h2, (hF.1 _ (by decide)).trans h1, (hF.1 _ (by decide)).trans h5, (hF.1 _ (by decide)).trans h6, (hF.1 _ (by decide)).trans h7, by rw [hF.2 2 (by decide)]; exact hM, RC_fr hR hF (by decide) (by decide), by rw [hF.2 10 (by decide)]; exact hsy⟩
theorem n92 : ¬ ((-9 : Int32) = -2) := by decide
theorem n90 : ¬ ((-9 : Int32) = 0) := by decide
theorem n20 : ¬ ((-2 : Int32) = 0) := by decide
theorem wf_loop {bl wd mm fn : Nat} {syn : Nat → Bool} (hw : 11 ≤ wd ∧ wd ≤ 40) (hbl : bl ≤ 200) (hfn : 2 ≤ fn) : ∀ (f : Nat) (D : Nat → Nat → Int32) (wr : Int32) (cut : Nat) (km : List Int32) (rs : List ARun), WF bl wd mm D cut km rs → WFR bl wd mm (aLoop bl wd fn syn f D wr cut km rs) := by
  intro f
  induction f with
  | zero => intro D wr cut km rs hW _; exact hW
  | succ f ih =>
    intro D wr cut km rs hW
    unfold aLoop
    cases hc : crow fn (getF rs) rs.length with
    | none => exact fun _ => hW
    | some i =>
      obtain ⟨hi, hp, hl⟩ := crow_some hc
      have hm := wf_merge (syn := syn) (wr := wr) (lv := (getF rs i).2.2.2 + 1) hw hbl hW hp (by have := hW.2.2.2.2.1; omega)
      simp only
      split
      · rename_i c
        exact ih _ _ _ _ _ (hm (by rw [c]; exact n09))
      · split
        · exact fun _ => hW
        · exact hm
theorem c_loop {bl wd mm fn : Nat} {ep : Int32} {syn : Nat → Bool} {Q : Int32 → gS → Prop} : ∀ (f x : Nat) (s : gS) (D : Nat → Nat → Int32) (wr : Int32) (cut : Nat) (km : List Int32) (rs : List ARun), x + f = 9 → LC bl wd mm fn ep syn s D wr cut km rs → WF bl wd mm D cut km rs → (∀ s', ResC bl wd mm fn ep syn (aLoop bl wd fn syn f D wr cut km rs) s' → Q (aLoop bl wd fn syn f D wr cut km rs).1 s') → wl_SpillQueue_mergeCrowdedLevels_2 Q (fun v16 s15 => Q 0 s15) (f + 1) (nI x) s := by
  intro f
  induction f with
  | zero =>
    intro x s D wr cut km rs hx hL hW h
    exact br_t (by (first | omega | ((simp (disch := omega) only [li0, li1, li2, li3, li4, li5, li9, li11, li40, li100, li200, li8000, li10000, lt_nI, le_nI, eq_nI]); done) | ((simp (disch := omega) only [li0, li1, li2, li3, li4, li5, li9, li11, li40, li100, li200, li8000, li10000, lt_nI, le_nI, eq_nI]); omega))) (h s ⟨fun q => absurd q n09, fun _ => hL⟩)
  | succ f ih =>
    intro x s D wr cut km rs hx hL hW h
    have hz := hL.1.2.2.2.2.1
    have hR := hL.2.2.2.2.2.2.2.1
    have h9 := hR.2.1
    refine br_f (by (first | omega | ((simp (disch := omega) only [li0, li1, li2, li3, li4, li5, li9, li11, li40, li100, li200, li8000, li10000, lt_nI, le_nI, eq_nI]); done) | ((simp (disch := omega) only [li0, li1, li2, li3, li4, li5, li9, li11, li40, li100, li200, li8000, li10000, lt_nI, le_nI, eq_nI]); omega))) ?_
    rw [hL.1.2.2.2.1]
    refine c_crowdedAt hR (by omega) ?_
    unfold aLoop at h
    cases hc : crow fn (getF rs) rs.length with
    | none =>
      rw [hc] at h
      exact br_f (by decide) (h s ⟨fun q => absurd q n09, fun _ => hL⟩)
    | some i =>
      rw [hc] at h
      simp only at h
      obtain ⟨hi, hp, hl⟩ := crow_some hc
      have e : (oI (some i)).toNatClampNeg = i := cl_nI (by omega)
      refine br_t (nI_pos' (by omega)) ⟨vp_in_nI (n := i) (by omega) (by omega), ?_⟩
      rw [e]
      intro v hv
      rw [(hR.2.2 i hi).1.2.1] at hv
      subst hv
      refine c_chooseLevel hR (fun f8 hf8 => ?_)
      have hF : Fr [] [1, 8, 9, 11, 12] s (s.1, ua s.2 8 f8) := Fr_a (Fr_refl _ _ _) (by decide)
      have hL1 := LC_fr hL hF
      have hm := wf_merge (syn := syn) (wr := wr) (lv := (getF rs i).2.2.2 + 1) ⟨by omega, by omega⟩ (by omega) hW hp (by have := hW.2.2.2.2.1; omega)
      refine c_make6 hL1 hW.2.2.2.2.2.1 hW.1 hp (fun k hk => ?_) (fun s1 hR1 => ?_)
      · rw [p2s]; exact hf8 k hk
      · rcases aMerge_code bl wd syn D wr cut km rs (pL (getF rs i).2.2.2) ((getF rs i).2.2.2 + 1) with c | c | c
        · rw [c] at h hR1 ⊢
          rw [if_neg (show ¬ ((-2 : Int32), D, wr, cut, km, rs).1 = 0 from n20), if_pos rfl] at h
          exact br_f (show ¬ ((-2 : Int32) = 0) from n20) (br_nf rfl (h s1 ⟨fun q => absurd q n09, fun _ => hR1.2 n29⟩))
        · rw [c]
          rw [c, if_neg n90, if_neg n92] at h
          exact br_f n90 (br_nt n92 (by have := h s1 hR1; rw [c] at this; exact this))
        · rw [c]
          rw [if_pos c] at h
          refine br_t rfl ?_
          (intro v hv; subst hv)
          rw [nI_1]
          exact ih (x + 1) s1 _ _ _ _ _ (by omega) (hR1.2 (by rw [c]; exact n09)) (hm (by rw [c]; exact n09)) h
theorem topL_ge {cs : Nat → ARun} {n : Nat} : 0 ≤ topL cs n ∧ (∀ i, i < n → (cs i).2.2.2 ≤ topL cs n) ∧ (topL cs n = 0 ∨ ∃ i, i < n ∧ (cs i).2.2.2 = topL cs n) := by
  induction n with
  | zero => exact ⟨by show (0 : Int32) ≤ 0; decide, fun i hi => by omega, Or.inl rfl⟩
  | succ n ih =>
    obtain ⟨h1, h2, h3⟩ := ih
    unfold topL
    by_cases c : (cs n).2.2.2 ≤ topL cs n
    · rw [if_pos c]
      refine ⟨h1, fun i hi => ?_, ?_⟩
      · rcases Nat.lt_or_eq_of_le (Nat.le_of_lt_succ hi) with q | q
        · exact h2 i q
        · rw [q]; exact c
      · rcases h3 with q | ⟨i, hi, e⟩
        · exact Or.inl q
        · exact Or.inr ⟨i, by omega, e⟩
    · rw [if_neg c]
      have c' := Int32.le_of_lt (Int32.not_le.mp c)
      refine ⟨Int32.le_trans h1 c', fun i hi => ?_, Or.inr ⟨n, by omega, rfl⟩⟩
      rcases Nat.lt_or_eq_of_le (Nat.le_of_lt_succ hi) with q | q
      · exact Int32.le_trans (h2 i q) c'
      · rw [q]; exact Int32.le_refl _
theorem top_eq {cs : Nat → ARun} {n : Nat} {g : Int32} (h1 : ∀ i, i < n → (cs i).2.2.2 ≤ g) (h2 : ∃ i, i < n ∧ (cs i).2.2.2 = g) (h3 : ∃ i, i < n ∧ 0 ≤ (cs i).2.2.2) : g = topL cs n := by
  obtain ⟨t1, t2, t3⟩ := topL_ge (cs := cs) (n := n)
  obtain ⟨i, hi, e⟩ := h2
  obtain ⟨j, hj, e0⟩ := h3
  refine Int32.le_antisymm (by rw [← e]; exact t2 i hi) ?_
  rcases t3 with q | ⟨k, hk, ek⟩
  · rw [q]; exact Int32.le_trans e0 (h1 j hj)
  · rw [← ek]; exact h1 k hk
theorem c_spill2 {bl wd mm fn : Nat} {ep : Int32} {syn : Nat → Bool} {s : gS} {D : Nat → Nat → Int32} {wr : Int32} {cut : Nat} {km : List Int32} {rs : List ARun} (hL : LC bl wd mm fn ep syn s D wr cut km rs) (hW : WF bl wd mm D cut km rs) (hk : 1 ≤ km.length) (hl : rs.length < (wd - 3) / 4) {Q : Int32 → gS → Prop} (h : ∀ s', ResC bl wd mm fn ep syn (aSpill2 bl wd fn syn D wr cut km rs) s' → Q (aSpill2 bl wd fn syn D wr cut km rs).1 s') : wp_SpillQueue_makeRun_4 0 s (fun r5 s4 => ((¬ r5 = 0 → Q r5 s4) ∧ (r5 = 0 → wp_SpillQueue_mergeCrowdedLevels s4 (fun r8 s7 => Q r8 s7)))) := by
  have hz := hL.1.2.2.2.2.1
  have w3 := hW.2.2.1
  refine c_make4 hL hW.2.2.2.2.2.1 hW.1 hk (by omega) (by omega) (fun s1 hR1 => ?_)
  have hm := wf_mem (syn := syn) (wr := wr) ⟨by omega, by omega⟩ (by omega) hW hk hl
  unfold aSpill2 thenR at h
  by_cases c : (aMem bl wd syn D wr cut km rs).1 = 0
  · rw [if_pos c] at h
    refine br_nf c ?_
    exact ⟨10, c_loop 9 0 s1 _ _ _ _ _ rfl (hR1.2 (by rw [c]; exact n09)) (hm (by rw [c]; exact n09)) h⟩
  · rw [if_neg c] at h
    exact br_nt c (h s1 hR1)
theorem c_spill {bl wd mm fn : Nat} {ep : Int32} {syn : Nat → Bool} {s : gS} {D : Nat → Nat → Int32} {wr : Int32} {cut : Nat} {km : List Int32} {rs : List ARun} (hL : LC bl wd mm fn ep syn s D wr cut km rs) (hW : WF bl wd mm D cut km rs) (hk : 1 ≤ km.length) {Q : Int32 → gS → Prop} (h : ∀ s', ResC bl wd mm fn ep syn (aSpill bl wd fn syn D wr cut km rs) s' → Q (aSpill bl wd fn syn D wr cut km rs).1 s') : wp_SpillQueue_spill s Q := by
  have hz := hL.1.2.2.2.2.1
  have hR := hL.2.2.2.2.2.2.2.1
  have h9 := hR.2.1
  have w5 := hW.2.2.2.2.1
  unfold wp_SpillQueue_spill
  refine c_most hL.1 ?_
  rw [hR.1]
  unfold aSpill at h
  by_cases c : rs.length < (wd - 3) / 4
  · rw [if_pos c] at h
    exact br_t (by (first | omega | ((simp (disch := omega) only [li0, li1, li2, li3, li4, li5, li9, li11, li40, li100, li200, li8000, li10000, lt_nI, le_nI, eq_nI]); done) | ((simp (disch := omega) only [li0, li1, li2, li3, li4, li5, li9, li11, li40, li100, li200, li8000, li10000, lt_nI, le_nI, eq_nI]); omega))) (c_spill2 hL hW hk c h)
  · rw [if_neg c] at h
    refine br_f (by (first | omega | ((simp (disch := omega) only [li0, li1, li2, li3, li4, li5, li9, li11, li40, li100, li200, li8000, li10000, lt_nI, le_nI, eq_nI]); done) | ((simp (disch := omega) only [li0, li1, li2, li3, li4, li5, li9, li11, li40, li100, li200, li8000, li10000, lt_nI, le_nI, eq_nI]); omega))) ?_
    refine c_chooseAll hR (fun f8 hf8 => ?_)
    have hF : Fr [] [1, 8, 9, 11, 12] s (s.1, ua s.2 8 f8) := Fr_a (Fr_refl _ _ _) (by decide)
    have hL1 := LC_fr hL hF
    obtain ⟨r0, hr0, hr0l⟩ := hW.2.2.2.2.2.2 (by omega)
    have hf0 : (rs.filter (fun r => !(fun _ => true) r)) = [] := by simp
    have hm := wf_merge (syn := syn) (wr := wr) (p := fun _ => true) (lv := topL (getF rs) rs.length + 1) ⟨by omega, by omega⟩ (by omega) hW ⟨r0, hr0, rfl⟩ (by rw [hf0]; simp; omega)
    refine c_greatest (RC_fr hR hF (by decide) (by decide)) (by omega) (fun g hg1 hg2 => ?_)
    have hg : g = topL (getF rs) rs.length := by
      refine top_eq hg1 hg2 ?_
      obtain ⟨i, hi, e⟩ := List.getElem_of_mem hr0
      refine ⟨i, hi, ?_⟩
      have e' : getF rs i = r0 := by rw [← e]; simp [getF, List.getD, hi]
      rw [e']; exact hr0l
    rw [hg]
    refine c_make6 (p := fun _ => true) hL1 hW.2.2.2.2.2.1 hW.1 ⟨r0, hr0, rfl⟩ (fun k hk => ?_) (fun s1 hR1 => ?_)
    · rw [p2s]; exact hf8 k hk
    · unfold thenR at h
      by_cases c0 : (aAll bl wd syn D wr cut km rs).1 = 0
      · rw [if_pos c0] at h
        refine br_t c0 ?_
        have hne : (aAll bl wd syn D wr cut km rs).1 ≠ -9 := by rw [c0]; exact n09
        have hkm : (aAll bl wd syn D wr cut km rs).2.2.2.2.1 = km := by
          rcases aMake_code bl wd syn D wr cut km rs (mKey wd D (chF (fun _ => true) rs) rs.length (getF rs)) (sumC (chF (fun _ => true) rs) (getF rs) rs.length) km (rs.filter (fun r => !(fun _ => true) r)) (topL (getF rs) rs.length + 1) with e | e | ⟨-, hn, e⟩
          · unfold aAll aMerge; rw [e]
          · unfold aAll aMerge at c0; rw [e] at c0; cases c0
          · unfold aAll aMerge; rw [e]
        have hlen : (aAll bl wd syn D wr cut km rs).2.2.2.2.2.length = 1 := (aMerge_len c0).trans (by simp)
        exact c_spill2 (hR1.2 hne) (hm hne) (by show 1 ≤ (aAll bl wd syn D wr cut km rs).2.2.2.2.1.length; rw [hkm]; exact hk) (by show (aAll bl wd syn D wr cut km rs).2.2.2.2.2.length < _; rw [hlen]; omega) h
      · rw [if_neg c0] at h
        exact br_f c0 (h s1 hR1)
