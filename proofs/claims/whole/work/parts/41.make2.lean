/-! The abstract state, and the class's makeRun. -/
abbrev Res := Int32 × (Nat → Nat → Int32) × Int32 × Nat × List Int32 × List ARun
def mks (rs : List ARun) : Nat → Bool := mkN (getF rs) rs.length
def aFree (bl : Nat) (syn : Nat → Bool) (rs : List ARun) : List Nat := frs (fun j => syn j || mks rs j) bl
def needN (wd count : Nat) : Nat := (count + (wd - 3)) / (wd - 2)
def aMake (bl wd : Nat) (syn : Nat → Bool) (D : Nat → Nat → Int32) (wr : Int32) (cut : Nat) (km : List Int32) (rs : List ARun) (key : Nat → Int32) (count : Nat) (km' : List Int32) (rest : List ARun) (lv : Int32) : Res :=
  if (aFree bl syn rs).length < needN wd count then (-2, D, wr, cut, km, rs)
  else if 1 ≤ cut ∧ cut ≤ needN wd count then (-9, Dw wd (aFree bl syn rs) (needN wd count) count key D (cut - 1), wr + nI (cut - 1), 0, [], [])
  else (0, Dw wd (aFree bl syn rs) (needN wd count) count key D (needN wd count), wr + nI (needN wd count), cut - needN wd count, km', rest ++ [((aFree bl syn rs).take (needN wd count), 0, count, lv)])
def keyMem (km : List Int32) (j : Nat) : Int32 := km.getD (km.length - 1 - j) 0
def aMem (bl wd : Nat) (syn : Nat → Bool) (D : Nat → Nat → Int32) (wr : Int32) (cut : Nat) (km : List Int32) (rs : List ARun) : Res := aMake bl wd syn D wr cut km rs (keyMem km) km.length [] rs 0
def chF (p : ARun → Bool) (rs : List ARun) (i : Nat) : Bool := p (getF rs i)
def aMerge (bl wd : Nat) (syn : Nat → Bool) (D : Nat → Nat → Int32) (wr : Int32) (cut : Nat) (km : List Int32) (rs : List ARun) (p : ARun → Bool) (lv : Int32) : Res := aMake bl wd syn D wr cut km rs (mKey wd D (chF p rs) rs.length (getF rs)) (sumC (chF p rs) (getF rs) rs.length) km (rs.filter (fun r => !p r)) lv
def LC (bl wd mm fn : Nat) (ep : Int32) (syn : Nat → Bool) (s : gS) (D : Nat → Nat → Int32) (wr : Int32) (cut : Nat) (km : List Int32) (rs : List ARun) : Prop := BC s bl wd mm fn D ∧ s.1 2 = 1 ∧ s.1 1 = ep ∧ s.1 5 = wr ∧ s.1 6 = nI cut ∧ s.1 7 = nI km.length ∧ Hold (s.2 2) km ∧ RC s D rs.length (getF rs) ∧ SetH (s.2 10) syn
def DC (bl wd mm fn : Nat) (s : gS) (D : Nat → Nat → Int32) (wr : Int32) : Prop := BC s bl wd mm fn D ∧ s.1 2 = 0 ∧ s.1 5 = wr
def ResC (bl wd mm fn : Nat) (ep : Int32) (syn : Nat → Bool) (R : Res) (s : gS) : Prop := (R.1 = -9 → DC bl wd mm fn s R.2.1 R.2.2.1) ∧ (R.1 ≠ -9 → LC bl wd mm fn ep syn s R.2.1 R.2.2.1 R.2.2.2.1 R.2.2.2.2.1 R.2.2.2.2.2)
theorem mkN_mem {cs : Nat → ARun} {n i x : Nat} (hi : i < n) (hx : x ∈ (cs i).1) : mkN cs n x = true := by
  induction n with
  | zero => omega
  | succ n ih =>
    unfold mkN
    by_cases e : i = n
    · subst e; simp [hx]
    · simp [ih (by omega)]
theorem getF_mem {rs : List ARun} {i : Nat} (hi : i < rs.length) : getF rs i ∈ rs := by
  have : getF rs i = rs[i] := by simp [getF, List.getD, hi]
  rw [this]; exact List.getElem_mem _
theorem aFree_out {bl : Nat} {syn : Nat → Bool} {rs : List ARun} {i x : Nat} (hi : i < rs.length) (hx : x ∈ (getF rs i).1) : x ∉ aFree bl syn rs := by
  intro h
  have := (frs_mem.mp h).2.2
  simp [mks, mkN_mem hi hx] at this
theorem aFree_mem {bl : Nat} {syn : Nat → Bool} {rs : List ARun} {x : Nat} (h : x ∈ aFree bl syn rs) : 2 ≤ x ∧ x < bl := ⟨(frs_mem.mp h).1, (frs_mem.mp h).2.1⟩
theorem kept_all {rs : List ARun} (h : ∀ r, r ∈ rs → 0 < r.2.2.1) : keptL (getF rs) rs.length = rs := by
  rw [kept_filter (ch := fun _ => false) (cs := getF rs) (fun i _ q => by cases q) (fun i hi _ => ⟨rfl, h _ (getF_mem hi)⟩)]
  have := rest_filter (p := fun _ => false) rs
  simp only [Bool.not_false] at this
  exact this.trans (List.filter_eq_self.mpr (fun _ _ => rfl))
theorem n29 : ¬ ((-2 : Int32) = -9) := by decide
theorem n09 : ¬ ((0 : Int32) = -9) := by decide
theorem takeI {l : List Int32} {n k : Nat} (h : k < n) : (l.take n).getD k 0 = l.getD k 0 := by
  simp [List.getD, List.getElem?_take, h]
theorem needN_pos {wd count : Nat} (hw : 11 ≤ wd ∧ wd ≤ 40) (h : 1 ≤ count) : 1 ≤ needN wd count := Nat.div_pos (by omega) (by omega)
theorem needN_ge {wd count : Nat} (hw : 11 ≤ wd ∧ wd ≤ 40) : count ≤ needN wd count * (wd - 2) := ceil_ge (P := wd - 2) (by omega) (by unfold needN; congr 1)
theorem count_lt {wd count n : Nat} (hw : 11 ≤ wd ∧ wd ≤ 40) (h : needN wd count ≤ n) (hn : n ≤ 200) : count < 8000 := by
  have h1 := needN_ge (count := count) hw
  have h2 : needN wd count * (wd - 2) ≤ 200 * (wd - 2) := Nat.mul_le_mul_right _ (by omega)
  omega
theorem c_finish {s : gS} {bl wd mm fn : Nat} {D : Nat → Nat → Int32} (hB : BC s bl wd mm fn D) {n : Nat} {cs : Nat → ARun} (hR : RC s D n cs) {rest : List ARun} (hk : keptL cs n = rest) (hl : rest.length < 9) {bs : List Nat} {c : Nat} {lv : Int32} (h0 : s.2 12 0 = nI (bs.headD 0)) (hbs : bs.headD 0 < bl) (hc : c < 8000) {Q : Int32 → gS → Prop} (h : ∀ s', Fr [9] [3, 4, 5, 6, 7] s s' → RC s' D (rest ++ [(bs, 0, c, lv)]).length (getF (rest ++ [(bs, 0, c, lv)])) → Q 0 s') : wp_Runs_dropEmpty s (fun s51 => vp_in 0 200 ∧ (wp_Runs_add (s51.2 12 (0 : Int32).toNatClampNeg) 0 (nI c) lv s51 (fun s54 => Q 0 s54))) := by
  have hz := hB.2.2.2.2.1
  refine c_dropEmpty hR (fun s1 hF1 hR1 => ?_)
  rw [hk] at hR1
  refine ⟨vp_in_nI (n := 0) (by omega) (by omega), ?_⟩
  rw [sb_cl0, hF1.2 12 (by decide), h0]
  exact c_add (BC_fr hB hF1 (by decide) (by decide)) hR1 hl (bs := bs) (b := 0) hbs (by omega) hc (fun s2 hF2 hR2 => h s2 (Fr_trans hF1 hF2) hR2)
theorem c_make4 {bl wd mm fn : Nat} {ep : Int32} {syn : Nat → Bool} {s : gS} {D : Nat → Nat → Int32} {wr : Int32} {cut : Nat} {km : List Int32} {rs : List ARun} (hL : LC bl wd mm fn ep syn s D wr cut km rs) (hok : ∀ r, r ∈ rs → RunOK bl wd D r) (hcut : cut ≤ 10000) (hk1 : 1 ≤ km.length) (hk2 : km.length ≤ 100) (hrs : rs.length < 9) {Q : Int32 → gS → Prop} (h : ∀ s', ResC bl wd mm fn ep syn (aMem bl wd syn D wr cut km rs) s' → Q (aMem bl wd syn D wr cut km rs).1 s') : wp_SpillQueue_makeRun_4 0 s Q := by
  obtain ⟨hB, h2, h1, h5, h6, h7, hM, hR, hsy⟩ := hL
  have hz := hB.2.2.2.2.1
  have hw : 11 ≤ wd ∧ wd ≤ 40 := by omega
  have hn1 := needN_pos hw hk1
  unfold wp_SpillQueue_makeRun_4 wp_Memory_howMany
  rw [h7]
  refine c_blocksFor hB (by omega) ?_
  have hnb : needN wd km.length < 2 ^ 20 := Nat.lt_of_le_of_lt (Nat.div_le_self _ _) (by omega)
  refine br_f (by show ¬ nI (needN wd km.length) < 1; (first | omega | ((simp (disch := omega) only [li0, li1, li2, li3, li4, li5, li9, li11, li40, li100, li200, li8000, li10000, lt_nI, le_nI, eq_nI]); done) | ((simp (disch := omega) only [li0, li1, li2, li3, li4, li5, li9, li11, li40, li100, li200, li8000, li10000, lt_nI, le_nI, eq_nI]); omega))) ?_
  refine c_gather hB hR (fun i hi => hok _ (getF_mem hi)) hsy (fun s1 hF1 hfree => ?_)
  have hfl : (aFree bl syn rs).length ≤ 200 := by have := frs_len (fun j => syn j || mks rs j) bl; unfold aFree; omega
  have hB1 := BC_fr hB hF1 (by decide) (by decide)
  have hR1 := RC_fr hR hF1 (by decide) (by decide)
  show ((nI (needN wd km.length) ≤ nI (aFree bl syn rs).length → _) ∧ (¬ nI (needN wd km.length) ≤ nI (aFree bl syn rs).length → _))
  unfold aMem aMake at h
  by_cases c1 : (aFree bl syn rs).length < needN wd km.length
  · rw [if_pos c1] at h
    refine br_f (by (first | omega | ((simp (disch := omega) only [li0, li1, li2, li3, li4, li5, li9, li11, li40, li100, li200, li8000, li10000, lt_nI, le_nI, eq_nI]); done) | ((simp (disch := omega) only [li0, li1, li2, li3, li4, li5, li9, li11, li40, li100, li200, li8000, li10000, lt_nI, le_nI, eq_nI]); omega))) ?_
    refine h s1 ⟨fun q => absurd q n29, fun _ => ⟨hB1, ?_, ?_, ?_, ?_, ?_, ?_, hR1, ?_⟩⟩
    · rw [hF1.1 2 (by decide)]; exact h2
    · rw [hF1.1 1 (by decide)]; exact h1
    · rw [hF1.1 5 (by decide)]; exact h5
    · rw [hF1.1 6 (by decide)]; exact h6
    · rw [hF1.1 7 (by decide)]; exact h7
    · rw [hF1.2 2 (by decide)]; exact hM
    · rw [hF1.2 10 (by decide)]; exact hsy
  rw [if_neg c1] at h
  refine br_t (by (first | omega | ((simp (disch := omega) only [li0, li1, li2, li3, li4, li5, li9, li11, li40, li100, li200, li8000, li10000, lt_nI, le_nI, eq_nI]); done) | ((simp (disch := omega) only [li0, li1, li2, li3, li4, li5, li9, li11, li40, li100, li200, li8000, li10000, lt_nI, le_nI, eq_nI]); omega))) ?_
  refine c_per hB1 ?_
  have hcl := count_lt hw (Nat.not_lt.mp c1) hfl
  have hagr : ∀ k, k ≤ needN wd km.length → ∀ i, i < rs.length → ∀ x, x ∈ (getF rs i).1 → ∀ q, D x q = Dw wd (aFree bl syn rs) (needN wd km.length) km.length (keyMem km) D k x q := fun k hk i hi x hx q => (Dw_out k (by omega) (aFree_out hi hx) q).symm
  refine ⟨needN wd km.length + 1, ?_⟩
  refine c_blocks4 (SC := fun j s => s.1 7 = nI (km.length - j) ∧ Hold (s.2 2) km ∧ RC s D rs.length (getF rs)) (key := keyMem km) (Agr := fun _ => True) (count := km.length) ?_ ?_ (D0 := D) (fl := aFree bl syn rs) (need := needN wd km.length) (cut := cut) (wr := wr) (s0 := s1) hz rfl (by omega) (by omega) hfl (fun x hx => (aFree_mem hx).2) hfree hcut (fun _ _ => trivial) ?_ ?_ _ 0 s1 (by omega) (Fr_refl _ _ _) hB1 ?_ (by omega) ?_ ⟨?_, ?_, hR1⟩
  · rintro Dc sa j Qa hBa - ⟨hS1, hS2, hS3⟩ hj hQ
    have hl : (km.take (km.length - j)).length = km.length - j := by rw [List.length_take]; omega
    refine c_memtake (kc := km.take (km.length - j)) (by rw [hl]; exact hS1) (by omega) (by omega) (fun i hi => ?_) ?_
    · rw [hl] at hi
      rw [hS2 i (by omega), takeI hi]
    · rw [hl]
      have e : (km.take (km.length - j)).getD (km.length - j - 1) 0 = keyMem km j := by
        unfold keyMem
        rw [show km.length - 1 - j = km.length - j - 1 by omega, takeI (by omega)]
      rw [e]
      have hFu : Fr [7] [] sa (up sa.1 7 (nI (km.length - j - 1)), sa.2) := Fr_u (Fr_refl _ _ _) (by decide)
      refine hQ _ (Fr_mono hFu (by decide) (by decide)) ⟨?_, hS2, RC_fr hS3 hFu (by decide) (by decide)⟩
      rw [Nat.sub_sub]
      exact up_s sa.1 7 (nI (km.length - (j + 1)))
  · rintro sa sb j hF ⟨hS1, hS2, hS3⟩
    exact ⟨(hF.1 7 (by decide)).trans hS1, by rw [hF.2 2 (by decide)]; exact hS2, RC_fr hS3 hF (by decide) (by decide)⟩
  · rintro c2 sa hF hBa h6a h5a ⟨hS1, hS2, hS3⟩
    rw [if_neg c2] at h
    have hRa := RC_agree hw hS3 (fun i hi _ => hok _ (getF_mem hi)) (hagr _ (Nat.le_refl _))
    have hne : (aFree bl syn rs).getD 0 0 < bl := (aFree_mem (getDN_mem (by omega))).2
    refine c_finish hBa hRa (kept_all (fun r hr => (hok r hr).2.2.1)) hrs (bs := (aFree bl syn rs).take (needN wd km.length)) ?_ (by rw [take_headD (by omega)]; exact hne) hcl (fun sb hFb hRb => h sb ⟨fun q => absurd q n09, fun _ => ⟨BC_fr hBa hFb (by decide) (by decide), ?_, ?_, ?_, ?_, ?_, hold_nil _, hRb, ?_⟩⟩)
    · rw [take_headD (by omega), hF.2 12 (by decide)]; exact hfree 0 (show 0 < (aFree bl syn rs).length by omega)
    · rw [hFb.1 2 (by decide), hF.1 2 (by decide), hF1.1 2 (by decide)]; exact h2
    · rw [hFb.1 1 (by decide), hF.1 1 (by decide), hF1.1 1 (by decide)]; exact h1
    · rw [hFb.1 5 (by decide)]; exact h5a
    · rw [hFb.1 6 (by decide)]; exact h6a
    · rw [hFb.1 7 (by decide), hS1, Nat.sub_self]; rfl
    · rw [hFb.2 10 (by decide), hF.2 10 (by decide), hF1.2 10 (by decide)]; exact hsy
  · intro c2 sa h2a hBa h5a
    rw [if_pos c2] at h
    exact h sa ⟨fun _ => ⟨hBa, h2a, h5a⟩, fun q => absurd rfl q⟩
  · rw [hF1.1 6 (by decide)]; exact h6
  · rw [hF1.1 5 (by decide), h5, show nI 0 = 0 from rfl, Int32.add_zero]
  · rw [Nat.zero_mul, Nat.zero_min, Nat.sub_zero, hF1.1 7 (by decide)]; exact h7
  · rw [hF1.2 2 (by decide)]; exact hM
theorem c_make6 {bl wd mm fn : Nat} {ep : Int32} {syn : Nat → Bool} {s : gS} {D : Nat → Nat → Int32} {wr : Int32} {cut : Nat} {km : List Int32} {rs : List ARun} (hL : LC bl wd mm fn ep syn s D wr cut km rs) (hok : ∀ r, r ∈ rs → RunOK bl wd D r) (hcut : cut ≤ 10000) {p : ARun → Bool} (hp : ∃ r, r ∈ rs ∧ p r = true) (hch : ∀ i, i < rs.length → s.2 8 i = bI (p (getF rs i))) {lv : Int32} {Q : Int32 → gS → Prop} (h : ∀ s', ResC bl wd mm fn ep syn (aMerge bl wd syn D wr cut km rs p lv) s' → Q (aMerge bl wd syn D wr cut km rs p lv).1 s') : wp_SpillQueue_makeRun_6 lv s Q := by
  obtain ⟨hB, h2, h1, h5, h6, h7, hM, hR, hsy⟩ := hL
  have hz := hB.2.2.2.2.1
  have hw : 11 ≤ wd ∧ wd ≤ 40 := by omega
  have hrs9 := hR.2.1
  have hokF : ∀ i, i < rs.length → RunOK bl wd D (getF rs i) := fun i hi => hok _ (getF_mem hi)
  generalize hcnt : sumC (chF p rs) (getF rs) rs.length = count at *
  have hc1 : 1 ≤ count := by
    obtain ⟨r, hr, hpr⟩ := hp
    obtain ⟨i, hi, e⟩ := List.getElem_of_mem hr
    have e' : getF rs i = r := by rw [← e]; simp [getF, List.getD, hi]
    rcases Nat.eq_zero_or_pos count with q | q
    · have := sumC_zero (hcnt.trans q) i hi (by unfold chF; rw [e']; exact hpr)
      have := (hokF i hi).2.2.1
      omega
    · exact q
  have hcb : count ≤ 8000 * rs.length := by rw [← hcnt]; exact sumC_le (fun i hi => (hR.2.2 i hi).2)
  have hn1 := needN_pos hw hc1
  unfold wp_SpillQueue_makeRun_6
  refine c_howMany (ch := chF p rs) hR hch ?_
  rw [hcnt]
  refine c_blocksFor hB (by omega) ?_
  have hnb : needN wd count < 2 ^ 20 := Nat.lt_of_le_of_lt (Nat.div_le_self _ _) (by omega)
  refine br_f (by show ¬ nI (needN wd count) < 1; (first | omega | ((simp (disch := omega) only [li0, li1, li2, li3, li4, li5, li9, li11, li40, li100, li200, li8000, li10000, lt_nI, le_nI, eq_nI]); done) | ((simp (disch := omega) only [li0, li1, li2, li3, li4, li5, li9, li11, li40, li100, li200, li8000, li10000, lt_nI, le_nI, eq_nI]); omega))) ?_
  refine c_gather hB hR hokF hsy (fun s1 hF1 hfree => ?_)
  have hfl : (aFree bl syn rs).length ≤ 200 := by have := frs_len (fun j => syn j || mks rs j) bl; unfold aFree; omega
  have hB1 := BC_fr hB hF1 (by decide) (by decide)
  have hR1 := RC_fr hR hF1 (by decide) (by decide)
  show ((nI (needN wd count) ≤ nI (aFree bl syn rs).length → _) ∧ (¬ nI (needN wd count) ≤ nI (aFree bl syn rs).length → _))
  unfold aMerge aMake at h
  rw [hcnt] at h
  by_cases c1 : (aFree bl syn rs).length < needN wd count
  · rw [if_pos c1] at h
    refine br_f (by (first | omega | ((simp (disch := omega) only [li0, li1, li2, li3, li4, li5, li9, li11, li40, li100, li200, li8000, li10000, lt_nI, le_nI, eq_nI]); done) | ((simp (disch := omega) only [li0, li1, li2, li3, li4, li5, li9, li11, li40, li100, li200, li8000, li10000, lt_nI, le_nI, eq_nI]); omega))) ?_
    refine h s1 ⟨fun q => absurd q n29, fun _ => ⟨hB1, ?_, ?_, ?_, ?_, ?_, ?_, hR1, ?_⟩⟩
    · rw [hF1.1 2 (by decide)]; exact h2
    · rw [hF1.1 1 (by decide)]; exact h1
    · rw [hF1.1 5 (by decide)]; exact h5
    · rw [hF1.1 6 (by decide)]; exact h6
    · rw [hF1.1 7 (by decide)]; exact h7
    · rw [hF1.2 2 (by decide)]; exact hM
    · rw [hF1.2 10 (by decide)]; exact hsy
  rw [if_neg c1] at h
  refine br_t (by (first | omega | ((simp (disch := omega) only [li0, li1, li2, li3, li4, li5, li9, li11, li40, li100, li200, li8000, li10000, lt_nI, le_nI, eq_nI]); done) | ((simp (disch := omega) only [li0, li1, li2, li3, li4, li5, li9, li11, li40, li100, li200, li8000, li10000, lt_nI, le_nI, eq_nI]); omega))) ?_
  refine c_per hB1 ?_
  have hcl := count_lt hw (Nat.not_lt.mp c1) hfl
  generalize hkey : mKey wd D (chF p rs) rs.length (getF rs) = key at *
  have hagr : ∀ k, k ≤ needN wd count → ∀ i, i < rs.length → ∀ x, x ∈ (getF rs i).1 → ∀ q, D x q = Dw wd (aFree bl syn rs) (needN wd count) count key D k x q := fun k hk i hi x hx q => (Dw_out k (by omega) (aFree_out hi hx) q).symm
  refine ⟨needN wd count + 1, ?_⟩
  refine c_blocks6 (SC := fun j s => j ≤ count ∧ RC s D rs.length (mIt wd D (chF p rs) rs.length (getF rs) j) ∧ (∀ i, i < rs.length → s.2 8 i = bI (p (getF rs i))) ∧ s.1 7 = nI km.length ∧ Hold (s.2 2) km) (key := key) (Agr := fun Dc => ∀ i, i < rs.length → ∀ x, x ∈ (getF rs i).1 → ∀ q, D x q = Dc x q) (count := count) ?_ ?_ (D0 := D) (fl := aFree bl syn rs) (need := needN wd count) (cut := cut) (wr := wr) (s0 := s1) hz rfl (by omega) (by omega) hfl (fun x hx => (aFree_mem hx).2) hfree hcut hagr ?_ ?_ _ 0 s1 (by omega) (Fr_refl _ _ _) hB1 ?_ (by omega) ?_ ⟨by omega, ?_, ?_, ?_, ?_⟩
  · rintro Dc sa j Qa hBa hAa ⟨-, hS1, hS2, hS3, hS4⟩ hj hQ
    have hI := mInv (ch := chF p rs) hw hokF j (by omega)
    obtain ⟨i, e1, hi, h0, hci, e2, e3⟩ := mPick_some hI (by omega)
    have hag : ∀ i, i < rs.length → ∀ x, x ∈ (mIt wd D (chF p rs) rs.length (getF rs) j i).1 → ∀ q, D x q = Dc x q := fun i hi x hx q => hAa i hi x (hI.2.2.1 i hi x hx) q
    have hRc := RC_agree hw hS1 hI.2.1 hag
    refine c_leastAt hS1 ?_
    have ep : pick (elC sa 1 (mIt wd D (chF p rs) rs.length (getF rs) j)) (fun i => aH D (mIt wd D (chF p rs) rs.length (getF rs) j i)) rs.length = some i := by
      rw [← e1]
      refine pick_congr (fun k hk => ?_) (fun k _ _ => rfl)
      unfold elC elM
      rw [hS2 k hk]
      cases hpk : p (getF rs k) <;> simp [chF, hpk, bI]
    rw [ep]
    refine c_takeFrom hBa hRc hi h0 (runOK_agree (hag i hi) (hI.2.1 i hi h0)) (fun sb hFb hRb => ?_)
    rw [← aH_agree hw (hag i hi) (hI.2.1 i hi h0), ← e3, hkey]
    have hI2 := mInv (ch := chF p rs) hw hokF (j + 1) (by omega)
    refine hQ sb (Fr_mono hFb (by decide) (by decide)) ⟨by omega, ?_, ?_, ?_, ?_⟩
    · rw [← e2] at hRb
      refine RC_agree (bl := bl) hw hRb (fun k hk q => ?_) (fun k hk x hx q => (hAa k hk x (hI2.2.2.1 k hk x hx) q).symm)
      exact runOK_agree (fun x hx q => hAa k hk x (hI2.2.2.1 k hk x hx) q) (hI2.2.1 k hk q)
    · intro k hk; rw [hFb.2 8 (by decide)]; exact hS2 k hk
    · rw [hFb.1 7 (by decide)]; exact hS3
    · rw [hFb.2 2 (by decide)]; exact hS4
  · rintro sa sb j hF ⟨hS0, hS1, hS2, hS3, hS4⟩
    exact ⟨hS0, RC_fr hS1 hF (by decide) (by decide), fun k hk => by rw [hF.2 8 (by decide)]; exact hS2 k hk, (hF.1 7 (by decide)).trans hS3, by rw [hF.2 2 (by decide)]; exact hS4⟩
  · rintro c2 sa hF hBa h6a h5a ⟨-, hS1, hS2, hS3, hS4⟩
    rw [if_neg c2] at h
    have hI := mInv (ch := chF p rs) hw hokF count (by omega)
    have hRa := RC_agree (bl := bl) (D' := Dw wd (aFree bl syn rs) (needN wd count) count key D (needN wd count)) hw hS1 hI.2.1 (fun i hi x hx q => hagr _ (Nat.le_refl _) i hi x (hI.2.2.1 i hi x hx) q)
    have hne : (aFree bl syn rs).getD 0 0 < bl := (aFree_mem (getDN_mem (by omega))).2
    have hkf : keptL (mIt wd D (chF p rs) rs.length (getF rs) count) rs.length = rs.filter (fun r => !p r) := by
      rw [← rest_filter (p := p) rs]
      exact kept_filter (ch := chF p rs) (cs := getF rs) (sumC_zero (by have := hI.2.2.2; omega)) (fun i hi hc => ⟨hI.1 i hi hc, (hokF i hi).2.2.1⟩)
    have hfl9 : (rs.filter (fun r => !p r)).length < 9 := by
      obtain ⟨r, hr, hpr⟩ := hp
      have : (rs.filter (fun r => !p r)).length < rs.length := List.length_filter_lt_length_iff_exists.mpr ⟨r, hr, by simp [hpr]⟩
      omega
    refine c_finish hBa hRa hkf hfl9 (bs := (aFree bl syn rs).take (needN wd count)) ?_ (by rw [take_headD (by omega)]; exact hne) hcl (fun sb hFb hRb => h sb ⟨fun q => absurd q n09, fun _ => ⟨BC_fr hBa hFb (by decide) (by decide), ?_, ?_, ?_, ?_, ?_, ?_, hRb, ?_⟩⟩)
    · rw [take_headD (by omega), hF.2 12 (by decide)]; exact hfree 0 (show 0 < (aFree bl syn rs).length by omega)
    · rw [hFb.1 2 (by decide), hF.1 2 (by decide), hF1.1 2 (by decide)]; exact h2
    · rw [hFb.1 1 (by decide), hF.1 1 (by decide), hF1.1 1 (by decide)]; exact h1
    · rw [hFb.1 5 (by decide)]; exact h5a
    · rw [hFb.1 6 (by decide)]; exact h6a
    · rw [hFb.1 7 (by decide)]; exact hS3
    · rw [hFb.2 2 (by decide)]; exact hS4
    · rw [hFb.2 10 (by decide), hF.2 10 (by decide), hF1.2 10 (by decide)]; exact hsy
  · intro c2 sa h2a hBa h5a
    rw [if_pos c2] at h
    exact h sa ⟨fun _ => ⟨hBa, h2a, h5a⟩, fun q => absurd rfl q⟩
  · rw [hF1.1 6 (by decide)]; exact h6
  · rw [hF1.1 5 (by decide), h5, show nI 0 = 0 from rfl, Int32.add_zero]
  · rw [Nat.zero_mul, Nat.zero_min]; exact hR1
  · intro k hk; rw [hF1.2 8 (by decide)]; exact hch k hk
  · rw [hF1.1 7 (by decide)]; exact h7
  · rw [hF1.2 2 (by decide)]; exact hM
