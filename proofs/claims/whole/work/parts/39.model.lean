/-! What is written: rows, and the disk after k blocks of a new run. -/
def rowOf (nx : Int32) (f : Nat → Int32) (here : Nat) : Nat → Int32 := fun i => if i = 1 then nx else if 2 ≤ i ∧ i < 2 + here then f (i - 2) else 0
theorem rowOf_1 (nx : Int32) (f : Nat → Int32) (here : Nat) : rowOf nx f here 1 = nx := by simp [rowOf]
theorem rowOf_0 (nx : Int32) (f : Nat → Int32) (i : Nat) : rowOf nx f 0 i = if i = 1 then nx else 0 := by
  unfold rowOf
  by_cases c : i = 1
  · rw [if_pos c, if_pos c]
  · rw [if_neg c, if_neg c, if_neg (by omega)]
theorem rowOf_succ {nx : Int32} {g r : Nat → Int32} {k : Nat} {N : Nat} (h : ∀ i, i < N → r i = rowOf nx g k i) : ∀ i, i < N → upd r (2 + k) (g k) i = rowOf nx g (k + 1) i := by
  intro i hi
  by_cases e : i = 2 + k
  · subst e
    rw [upd_s]
    unfold rowOf
    rw [if_neg (by omega), if_pos (by omega)]
    congr 1; omega
  · rw [upd_n e, h i hi]
    unfold rowOf
    by_cases c1 : i = 1
    · rw [if_pos c1, if_pos c1]
    · rw [if_neg c1, if_neg c1]
      by_cases c2 : 2 ≤ i ∧ i < 2 + k
      · rw [if_pos c2, if_pos (by omega)]
      · rw [if_neg c2, if_neg (by omega)]
theorem wrB_congr {D D' : Nat → Nat → Int32} {wd b b' i : Nat} {w w' : Nat → Int32} (hD : D b' i = D' b' i) (hw : ∀ i, i < wd → w i = w' i) (hi : i < wd) : wrB D wd b w b' i = wrB D' wd b w' b' i := by
  unfold wrB
  by_cases c : b' = b
  · rw [if_pos c, if_pos c, hw i hi, sumN_congr wd (fun j _ hj => hw j hj)]
  · rw [if_neg c, if_neg c, hD]
theorem BC_D {s : gS} {bl wd mm fn : Nat} {D : Nat → Nat → Int32} {D' : Nat → Nat → Int32} (hB : BC s bl wd mm fn D) (h : ∀ b i, b < bl → i < wd → D b i = D' b i) : BC s bl wd mm fn D' :=
  ⟨hB.1, hB.2.1, hB.2.2.1, hB.2.2.2.1, hB.2.2.2.2.1, fun b i hb hi => (hB.2.2.2.2.2 b i hb hi).trans (h b i hb hi)⟩
theorem BM_D {s : gS} {bl wd mm fn : Nat} {D : Nat → Nat → Int32} {D' : Nat → Nat → Int32} (hB : BM s bl wd mm fn D) (h : ∀ b i, b < bl → i < wd → D b i = D' b i) : BM s bl wd mm fn D' :=
  ⟨hB.1, hB.2.1, hB.2.2.1, hB.2.2.2.1, hB.2.2.2.2.1, fun b i hb hi => (hB.2.2.2.2.2 b i hb hi).trans (h b i hb hi)⟩
def hereN (per count k : Nat) : Nat := if count - k * per < per then count - k * per else per
def nxN (fl : List Nat) (need k : Nat) : Int32 := if k + 1 < need then nI (fl.getD (k + 1) 0) else 0
def rowN (wd : Nat) (fl : List Nat) (need count : Nat) (key : Nat → Int32) (k : Nat) : Nat → Int32 := rowOf (nxN fl need k) (fun i => key (k * (wd - 2) + i)) (hereN (wd - 2) count k)
def Dw (wd : Nat) (fl : List Nat) (need count : Nat) (key : Nat → Int32) (D : Nat → Nat → Int32) : Nat → Nat → Nat → Int32
  | 0 => D
  | k + 1 => wrB (Dw wd fl need count key D k) wd (fl.getD k 0) (rowN wd fl need count key k)
theorem Dw_out {wd : Nat} {fl : List Nat} {need count : Nat} {key : Nat → Int32} {D : Nat → Nat → Int32} {x : Nat} (k : Nat) (hk : k ≤ fl.length) (hx : x ∉ fl) (i : Nat) : Dw wd fl need count key D k x i = D x i := by
  induction k with
  | zero => rfl
  | succ k ih =>
    unfold Dw
    rw [wrB_n]
    · exact ih (by omega)
    · intro e
      apply hx
      rw [e]
      have : fl.getD k 0 = fl[k] := by simp [List.getD, show k < fl.length by omega]
      rw [this]; exact List.getElem_mem _
theorem getDN {l : List Nat} {i : Nat} (h : i < l.length) : l.getD i 0 = l[i] := by simp [List.getD, h]
theorem getDN_mem {l : List Nat} {i : Nat} (h : i < l.length) : l.getD i 0 ∈ l := by rw [getDN h]; exact List.getElem_mem _
theorem nodup_ne {l : List Nat} (h : l.Nodup) {i j : Nat} (hi : i < l.length) (hj : j < l.length) (hij : i ≠ j) : l.getD i 0 ≠ l.getD j 0 := by
  rw [getDN hi, getDN hj]
  intro e
  exact hij ((List.getElem_inj h).mp e)
theorem Dw_in {wd : Nat} {fl : List Nat} {need count : Nat} {key : Nat → Int32} {D : Nat → Nat → Int32} (hd : fl.Nodup) {j : Nat} (k : Nat) (hk : k ≤ fl.length) (hj : j < k) {i : Nat} (hi : i ≠ 0) : Dw wd fl need count key D k (fl.getD j 0) i = rowN wd fl need count key j i := by
  induction k with
  | zero => omega
  | succ k ih =>
    unfold Dw
    by_cases e : j = k
    · subst e; rw [wrB_s hi]
    · rw [wrB_n (nodup_ne hd (by omega) (by omega) e)]
      exact ih (by omega) (by omega)
theorem chained_idx {D : Nat → Nat → Int32} (l : List Nat) (h1 : ∀ k, k + 1 < l.length → D (l.getD k 0) 1 = nI (l.getD (k + 1) 0)) (h2 : ∀ k, k + 1 = l.length → D (l.getD k 0) 1 = 0) : Chained D l := by
  induction l with
  | nil => trivial
  | cons x t ih =>
    refine chained_cons.mpr ⟨?_, ih (fun k hk => ?_) (fun k hk => ?_)⟩
    · cases t with
      | nil => exact h2 0 rfl
      | cons y u => exact h1 0 (by simp)
    · exact h1 (k + 1) (by simpa using hk)
    · exact h2 (k + 1) (by simpa using hk)
theorem take_getD {l : List Nat} {n k : Nat} (h : k < n) : (l.take n).getD k 0 = l.getD k 0 := by
  simp [List.getD, List.getElem?_take, h]
theorem take_headD {l : List Nat} {n : Nat} (h : 0 < n) : (l.take n).headD 0 = l.getD 0 0 := by
  cases l with
  | nil => simp
  | cons x t => cases n with
    | zero => omega
    | succ n => simp
/-- the new run is right on the disk that was written -/
theorem runOK_new {bl wd : Nat} {fl : List Nat} {need count : Nat} {key : Nat → Int32} {D : Nat → Nat → Int32} {lv : Int32} (hw : 11 ≤ wd ∧ wd ≤ 40) (hbl : bl ≤ 200) (hd : fl.Nodup) (hm : ∀ x, x ∈ fl → 2 ≤ x ∧ x < bl) (hlen : fl.length ≤ bl) (hc : 1 ≤ count) (hn : need = (count + (wd - 3)) / (wd - 2)) (hnl : need ≤ fl.length) : RunOK bl wd (Dw wd fl need count key D need) (fl.take need, 0, count, lv) := by
  have hl : (fl.take need).length = need := by rw [List.length_take]; omega
  refine ⟨?_, ?_, hc, ?_, ?_, ?_⟩
  · show (fl.take need).length = (0 + count + (wd - 3)) / (wd - 2)
    rw [hl, hn, Nat.zero_add]
  · show (fl.take need).length ≤ 200; omega
  · show 0 < wd - 2; omega
  · intro x hx; exact hm x (List.mem_of_mem_take hx)
  · refine chained_idx _ (fun k hk => ?_) (fun k hk => ?_)
    · rw [hl] at hk
      rw [take_getD (by omega), take_getD hk, Dw_in hd need hnl (by omega) (by omega)]
      unfold rowN; rw [rowOf_1]; unfold nxN; rw [if_pos hk]
    · rw [hl] at hk
      rw [take_getD (by omega), Dw_in hd need hnl (by omega) (by omega)]
      unfold rowN; rw [rowOf_1]; unfold nxN; rw [if_neg (by omega)]
theorem chained_agree {D D' : Nat → Nat → Int32} {l : List Nat} (h : ∀ x, x ∈ l → ∀ k, D x k = D' x k) (hC : Chained D l) : Chained D' l := by
  induction l with
  | nil => trivial
  | cons x t ih =>
    obtain ⟨h1, h2⟩ := chained_cons.mp hC
    exact chained_cons.mpr ⟨by rw [← h x List.mem_cons_self]; exact h1, ih (fun y hy => h y (List.mem_cons_of_mem _ hy)) h2⟩
theorem runOK_agree {bl wd : Nat} {D D' : Nat → Nat → Int32} {r : ARun} (h : ∀ x, x ∈ r.1 → ∀ k, D x k = D' x k) (hr : RunOK bl wd D r) : RunOK bl wd D' r :=
  ⟨hr.1, hr.2.1, hr.2.2.1, hr.2.2.2.1, hr.2.2.2.2.1, chained_agree h hr.2.2.2.2.2⟩
theorem aH_agree {bl wd : Nat} {D D' : Nat → Nat → Int32} {r : ARun} (hw : 11 ≤ wd ∧ wd ≤ 40) (h : ∀ x, x ∈ r.1 → ∀ k, D x k = D' x k) (hr : RunOK bl wd D r) : aH D r = aH D' r := by
  have hk := runOK_cnt hw hr
  unfold aH
  cases e : r.1 with
  | nil => rw [e] at hk; simp at hk
  | cons x t => exact h x (by rw [e]; exact List.mem_cons_self) _
theorem RC_agree {s : gS} {bl wd : Nat} {D D' : Nat → Nat → Int32} {n : Nat} {cs : Nat → ARun} (hw : 11 ≤ wd ∧ wd ≤ 40) (hR : RC s D n cs) (hok : ∀ i, i < n → 0 < (cs i).2.2.1 → RunOK bl wd D (cs i)) (h : ∀ i, i < n → ∀ x, x ∈ (cs i).1 → ∀ k, D x k = D' x k) : RC s D' n cs := by
  refine ⟨hR.1, hR.2.1, fun i hi => ?_⟩
  obtain ⟨⟨h1, h2, h3⟩, h4⟩ := hR.2.2 i hi
  refine ⟨⟨h1, h2, fun q => ⟨(h3 q).1, (h3 q).2.1, ?_⟩⟩, h4⟩
  rw [(h3 q).2.2]
  exact aH_agree hw (h i hi) (hok i hi q)
/-! the merge: keys go one by one out of the first least head -/
def elM (ch : Nat → Bool) (cs : Nat → ARun) (i : Nat) : Bool := decide (0 < (cs i).2.2.1) && ch i
def mPick (D : Nat → Nat → Int32) (ch : Nat → Bool) (n : Nat) (cs : Nat → ARun) : Option Nat := pick (elM ch cs) (fun i => aH D (cs i)) n
def mIt (wd : Nat) (D : Nat → Nat → Int32) (ch : Nat → Bool) (n : Nat) (cs : Nat → ARun) : Nat → Nat → ARun
  | 0 => cs
  | j + 1 => match mPick D ch n (mIt wd D ch n cs j) with
    | none => mIt wd D ch n cs j
    | some i => updR (mIt wd D ch n cs j) i (adv wd (mIt wd D ch n cs j i))
def mKey (wd : Nat) (D : Nat → Nat → Int32) (ch : Nat → Bool) (n : Nat) (cs : Nat → ARun) (j : Nat) : Int32 := aH D (mIt wd D ch n cs j ((mPick D ch n (mIt wd D ch n cs j)).getD 0))
theorem adv_cnt (wd : Nat) (r : ARun) : (adv wd r).2.2.1 = r.2.2.1 - 1 := by unfold adv; split <;> rfl
theorem adv_lev (wd : Nat) (r : ARun) : (adv wd r).2.2.2 = r.2.2.2 := by unfold adv; split <;> rfl
theorem adv_sub (wd : Nat) (r : ARun) : ∀ x, x ∈ (adv wd r).1 → x ∈ r.1 := by
  unfold adv; split
  · intro x hx; exact List.mem_of_mem_tail hx
  · intro x hx; exact hx
theorem sumC_congr {ch : Nat → Bool} {cs cs' : Nat → ARun} {n : Nat} (h : ∀ i, i < n → ch i = true → (cs i).2.2.1 = (cs' i).2.2.1) : sumC ch cs n = sumC ch cs' n := by
  induction n with
  | zero => rfl
  | succ n ih =>
    unfold sumC
    rw [ih (fun i hi => h i (by omega))]
    cases hc : ch n with
    | false => simp
    | true => rw [h n (by omega) hc]
theorem sumC_upd {ch : Nat → Bool} {cs : Nat → ARun} {n i : Nat} {r : ARun} (hi : i < n) (hc : ch i = true) : sumC ch (updR cs i r) n + (cs i).2.2.1 = sumC ch cs n + r.2.2.1 := by
  induction n with
  | zero => omega
  | succ n ih =>
    unfold sumC
    by_cases e : i = n
    · subst e
      rw [sumC_congr (cs := updR cs i r) (cs' := cs) (fun j hj _ => by rw [updR_n (by omega)]), updR_s, hc]
      simp; omega
    · have := ih (by omega)
      rw [updR_n (fun q => e q.symm)]
      omega
theorem sumC_pos {ch : Nat → Bool} {cs : Nat → ARun} {n : Nat} (h : 0 < sumC ch cs n) : ∃ i, i < n ∧ ch i = true ∧ 0 < (cs i).2.2.1 := by
  induction n with
  | zero => simp [sumC] at h
  | succ n ih =>
    unfold sumC at h
    by_cases c : 0 < sumC ch cs n
    · obtain ⟨i, h1, h2⟩ := ih c; exact ⟨i, by omega, h2⟩
    · cases hc : ch n with
      | false => rw [hc] at h; simp at h; omega
      | true => rw [hc] at h; simp at h; exact ⟨n, by omega, hc, by omega⟩
theorem sumC_zero {ch : Nat → Bool} {cs : Nat → ARun} {n : Nat} (h : sumC ch cs n = 0) : ∀ i, i < n → ch i = true → (cs i).2.2.1 = 0 := by
  induction n with
  | zero => intro i hi; omega
  | succ n ih =>
    unfold sumC at h
    intro i hi hc
    by_cases e : i = n
    · subst e; rw [hc] at h; simp at h; omega
    · exact ih (by omega) i (by omega) hc
/-- what holds of the runs at every step of the merge -/
def MInv (bl wd : Nat) (D : Nat → Nat → Int32) (ch : Nat → Bool) (n : Nat) (cs : Nat → ARun) (j : Nat) : Prop :=
  (∀ i, i < n → ch i = false → mIt wd D ch n cs j i = cs i) ∧ (∀ i, i < n → 0 < (mIt wd D ch n cs j i).2.2.1 → RunOK bl wd D (mIt wd D ch n cs j i)) ∧ (∀ i, i < n → ∀ x, x ∈ (mIt wd D ch n cs j i).1 → x ∈ (cs i).1) ∧ sumC ch (mIt wd D ch n cs j) n + j = sumC ch cs n
theorem mInv {bl wd : Nat} {D : Nat → Nat → Int32} {ch : Nat → Bool} {n : Nat} {cs : Nat → ARun} (hw : 11 ≤ wd ∧ wd ≤ 40) (hok : ∀ i, i < n → RunOK bl wd D (cs i)) (j : Nat) (hj : j ≤ sumC ch cs n) : MInv bl wd D ch n cs j := by
  induction j with
  | zero => exact ⟨fun i _ _ => rfl, fun i hi _ => hok i hi, fun i _ x hx => hx, rfl⟩
  | succ j ih =>
    obtain ⟨h1, h2, h3, h4⟩ := ih (by omega)
    obtain ⟨q, hq, hqc, hq0⟩ := sumC_pos (ch := ch) (cs := mIt wd D ch n cs j) (n := n) (by omega)
    cases hp : mPick D ch n (mIt wd D ch n cs j) with
    | none =>
      have := pick_none hp q hq
      simp [elM, hqc] at this
      omega
    | some i =>
      have hi := pick_lt hp
      have hel : 0 < (mIt wd D ch n cs j i).2.2.1 ∧ ch i = true := by
        have := hi.2; simp only [elM, Bool.and_eq_true, decide_eq_true_eq] at this; exact this
      have e : mIt wd D ch n cs (j + 1) = updR (mIt wd D ch n cs j) i (adv wd (mIt wd D ch n cs j i)) := by
        rw [mIt, hp]
      unfold MInv
      rw [e]
      refine ⟨fun k hk hc => ?_, fun k hk h0 => ?_, fun k hk x hx => ?_, ?_⟩
      · rw [updR_n (fun q => by rw [q, hel.2] at hc; cases hc)]; exact h1 k hk hc
      · by_cases c : k = i
        · subst c
          rw [updR_s] at h0 ⊢
          rw [adv_cnt] at h0
          exact runOK_adv hw (h2 k hk hel.1) (by omega)
        · rw [updR_n c] at h0 ⊢; exact h2 k hk h0
      · by_cases c : k = i
        · subst c
          rw [updR_s] at hx
          exact h3 k hk x (adv_sub wd _ x hx)
        · rw [updR_n c] at hx; exact h3 k hk x hx
      · have := sumC_upd (ch := ch) (cs := mIt wd D ch n cs j) (n := n) (i := i) (r := adv wd (mIt wd D ch n cs j i)) hi.1 hel.2
        rw [adv_cnt] at this
        omega
theorem mPick_some {bl wd : Nat} {D : Nat → Nat → Int32} {ch : Nat → Bool} {n : Nat} {cs : Nat → ARun} {j : Nat} (h : MInv bl wd D ch n cs j) (hj : j < sumC ch cs n) : ∃ i, mPick D ch n (mIt wd D ch n cs j) = some i ∧ i < n ∧ 0 < (mIt wd D ch n cs j i).2.2.1 ∧ ch i = true ∧ mIt wd D ch n cs (j + 1) = updR (mIt wd D ch n cs j) i (adv wd (mIt wd D ch n cs j i)) ∧ mKey wd D ch n cs j = aH D (mIt wd D ch n cs j i) := by
  obtain ⟨h1, h2, h3, h4⟩ := h
  obtain ⟨q, hq, hqc, hq0⟩ := sumC_pos (ch := ch) (cs := mIt wd D ch n cs j) (n := n) (by omega)
  cases hp : mPick D ch n (mIt wd D ch n cs j) with
  | none =>
    have := pick_none hp q hq
    simp [elM, hqc] at this
    omega
  | some i =>
    have hi := pick_lt hp
    have hel : 0 < (mIt wd D ch n cs j i).2.2.1 ∧ ch i = true := by
      have := hi.2; simp only [elM, Bool.and_eq_true, decide_eq_true_eq] at this; exact this
    exact ⟨i, rfl, hi.1, hel.1, hel.2, by rw [mIt, hp], by rw [mKey, hp]; rfl⟩
/-- what is left when the chosen runs are empty -/
theorem kept_filter {ch : Nat → Bool} {cs cs' : Nat → ARun} {n : Nat} (h0 : ∀ i, i < n → ch i = true → (cs' i).2.2.1 = 0) (h1 : ∀ i, i < n → ch i = false → cs' i = cs i ∧ 0 < (cs i).2.2.1) : keptL cs' n = (List.range n).filterMap (fun i => if ch i then none else some (cs i)) := by
  induction n with
  | zero => rfl
  | succ n ih =>
    rw [List.range_succ, List.filterMap_append, ← ih (fun i hi => h0 i (by omega)) (fun i hi => h1 i (by omega))]
    rw [show keptL cs' (n + 1) = if 0 < (cs' n).2.2.1 then keptL cs' n ++ [cs' n] else keptL cs' n from rfl]
    cases hc : ch n with
    | true => rw [if_neg (by rw [h0 n (by omega) hc]; omega)]; simp [hc]
    | false =>
      obtain ⟨e, hp⟩ := h1 n (by omega) hc
      rw [e, if_pos hp]; simp [hc]
theorem rest_filter {p : ARun → Bool} (rs : List ARun) : (List.range rs.length).filterMap (fun i => if p (getF rs i) then none else some (getF rs i)) = rs.filter (fun r => !p r) := by
  have : ∀ (l : List ARun), (List.range l.length).filterMap (fun i => if p (getF l i) then none else some (getF l i)) = l.filter (fun r => !p r) := by
    intro l
    induction l with
    | nil => rfl
    | cons x t ih =>
      rw [List.length_cons, List.range_succ_eq_map, List.filterMap_cons, List.filterMap_map, List.filter_cons]
      have e : (fun i => if p (getF (x :: t) i) then none else some (getF (x :: t) i)) ∘ Nat.succ = (fun i => if p (getF t i) then none else some (getF t i)) := by
        funext i; simp [getF]
      rw [e, ih]
      have e0 : getF (x :: t) 0 = x := rfl
      rw [e0]
      cases p x <;> simp
  exact this rs
