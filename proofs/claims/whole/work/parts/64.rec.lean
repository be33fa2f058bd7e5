/-! Recovery: what a superblock says. -/
theorem nI_ofI {a : Int32} (h : ¬ a < 0) : a = nI a.toNatClampNeg ∧ a.toNatClampNeg < 2 ^ 31 :=
  ⟨(Int32.ofNat_toNatClampNeg a (Int32.not_lt.mp h)).symm, Int32.toNatClampNeg_lt a⟩
def rise (D : Nat → Nat → Int32) (b : Nat) : Nat → Nat → Int32 → Option Int32
  | 0, _, last => some last
  | m + 1, pl, last => if last ≤ D b (2 + pl) then rise D b m (pl + 1) (D b (2 + pl)) else none
theorem rise_ge {D : Nat → Nat → Int32} {b : Nat} : ∀ (m pl : Nat) (last v : Int32), rise D b m pl last = some v → last ≤ v := by
  intro m
  induction m with
  | zero => intro pl last v h; cases h; exact Int32.le_refl _
  | succ m ih =>
    intro pl last v h
    unfold rise at h
    split at h
    · rename_i c; exact Int32.le_trans c (ih _ _ _ h)
    · cases h
def chk (bl wd : Nat) (D : Nat → Nat → Int32) (e : Nat) : Nat → Nat → Nat → Int32 → Int32 → (Nat → Bool) → Option (List Nat × (Nat → Bool))
  | 0, _, _, _, _, _ => none
  | fu + 1, n, fr, b, last, seen =>
    if e ≤ n * (wd - 2) then (if b = 0 then some ([], seen) else none)
    else if b < 2 then none
    else if nI bl ≤ b then none
    else if seen b.toNatClampNeg = true then none
    else if ¬ D b.toNatClampNeg 0 = sumN (D b.toNatClampNeg) wd then none
    else match rise D b.toNatClampNeg (hereN (wd - 2) e n - fr) fr last with
      | none => none
      | some last' => match chk bl wd D e fu (n + 1) 0 (D b.toNatClampNeg 1) last' (sAdd seen b.toNatClampNeg) with
        | none => none
        | some x => some (b.toNatClampNeg :: x.1, x.2)
theorem chk_some {bl wd : Nat} {D : Nat → Nat → Int32} {e : Nat} (hbl : bl ≤ 200) : ∀ (fu n fr : Nat) (b last : Int32) (seen : Nat → Bool) (l : List Nat) (sn : Nat → Bool), chk bl wd D e fu n fr b last seen = some (l, sn) → b = nI (l.headD 0) ∧ Chained D l ∧ (∀ x, x ∈ l → 2 ≤ x ∧ x < bl ∧ seen x = false) ∧ l.Nodup ∧ (∀ j, sn j = (seen j || l.contains j)) ∧ e ≤ (n + l.length) * (wd - 2) ∧ (1 ≤ l.length → (n + l.length - 1) * (wd - 2) < e) := by
  intro fu
  induction fu with
  | zero => intro n fr b last seen l sn h; cases h
  | succ fu ih =>
    intro n fr b last seen l sn h
    unfold chk at h
    by_cases c0 : e ≤ n * (wd - 2)
    · rw [if_pos c0] at h
      by_cases cb : b = 0
      · rw [if_pos cb] at h
        cases h
        exact ⟨cb, trivial, fun x hx => absurd hx (by simp), List.Pairwise.nil, fun j => by simp, by simpa using c0, fun q => absurd q (by simp)⟩
      · rw [if_neg cb] at h; cases h
    · rw [if_neg c0] at h
      by_cases c1 : b < 2
      · rw [if_pos c1] at h; cases h
      rw [if_neg c1] at h
      by_cases c2 : nI bl ≤ b
      · rw [if_pos c2] at h; cases h
      rw [if_neg c2] at h
      have hb0 : ¬ b < 0 := fun q => c1 (Int32.lt_of_lt_of_le q (by decide))
      obtain ⟨bb, hbb, eb, -, ec, -⟩ := pk_mu hb0 c2 (by omega)
      rw [ec] at h
      have h2 : 2 ≤ bb := by rw [eb, li2, lt_nI (by omega) (by omega)] at c1; omega
      by_cases c3 : seen bb = true
      · rw [if_pos c3] at h; cases h
      rw [if_neg c3] at h
      by_cases c4 : ¬ D bb 0 = sumN (D bb) wd
      · rw [if_pos c4] at h; cases h
      rw [if_neg c4] at h
      cases hr : rise D bb (hereN (wd - 2) e n - fr) fr last with
      | none => rw [hr] at h; cases h
      | some last' =>
        rw [hr] at h
        simp only at h
        cases hk : chk bl wd D e fu (n + 1) 0 (D bb 1) last' (sAdd seen bb) with
        | none => rw [hk] at h; cases h
        | some x =>
          rw [hk] at h
          simp only [Option.some.injEq, Prod.mk.injEq] at h
          obtain ⟨rfl, rfl⟩ := h
          obtain ⟨i1, i2, i3, i4, i5, i6, i7⟩ := ih (n + 1) 0 _ _ _ x.1 x.2 hk
          refine ⟨eb, chained_cons.mpr ⟨i1, i2⟩, ?_, ?_, ?_, ?_, ?_⟩
          · intro y hy
            rcases List.mem_cons.mp hy with q | q
            · subst q
              exact ⟨h2, hbb, by simpa using c3⟩
            · have := i3 y q
              refine ⟨this.1, this.2.1, ?_⟩
              have h3 := this.2.2
              unfold sAdd at h3
              simp only [Bool.or_eq_false_iff] at h3
              exact h3.1
          · refine List.nodup_cons.mpr ⟨fun q => ?_, i4⟩
            have := (i3 bb q).2.2
            simp [sAdd] at this
          · intro j
            rw [i5 j]
            simp only [sAdd, List.contains_cons, Bool.or_assoc]
          · rw [List.length_cons, show n + (x.1.length + 1) = n + 1 + x.1.length by omega]; exact i6
          · intro _
            rw [List.length_cons, show n + (x.1.length + 1) - 1 = n + x.1.length by omega]
            by_cases cl : 1 ≤ x.1.length
            · have := i7 cl
              rw [show n + 1 + x.1.length - 1 = n + x.1.length by omega] at this
              exact this
            · rw [show x.1.length = 0 by omega, Nat.add_zero]; omega
theorem nodup_len {l : List Nat} : ∀ (n : Nat), l.Nodup → (∀ x, x ∈ l → x < n) → l.length ≤ n := by
  intro n
  induction n generalizing l with
  | zero =>
    intro _ h
    cases l with
    | nil => simp
    | cons x t => exact absurd (h x List.mem_cons_self) (by omega)
  | succ n ih =>
    intro hd h
    have h1 : (l.erase n).length ≤ n := ih (hd.erase n) (fun x hx => by
      have hm := (List.Nodup.mem_erase_iff hd).mp hx
      have := h x hm.2
      have := hm.1
      omega)
    have h2 := List.length_erase (a := n) (l := l)
    split at h2 <;> omega
def rdRun (bl wd : Nat) (D : Nat → Nat → Int32) (sb k : Nat) (seen : Nat → Bool) : Option (ARun × (Nat → Bool)) :=
  if D sb (3 + 4 * k + 3) < 0 ∨ D sb (3 + 4 * k + 2) < 1 ∨ D sb (3 + 4 * k + 1) < 0 ∨ nI (wd - 2) ≤ D sb (3 + 4 * k + 1) then none
  else match chk bl wd D ((D sb (3 + 4 * k + 1)).toNatClampNeg + (D sb (3 + 4 * k + 2)).toNatClampNeg) ((D sb (3 + 4 * k + 1)).toNatClampNeg + (D sb (3 + 4 * k + 2)).toNatClampNeg + 1) 0 (D sb (3 + 4 * k + 1)).toNatClampNeg (D sb (3 + 4 * k)) 0 seen with
    | none => none
    | some x => some ((x.1, (D sb (3 + 4 * k + 1)).toNatClampNeg, (D sb (3 + 4 * k + 2)).toNatClampNeg, D sb (3 + 4 * k + 3)), x.2)
theorem rdRun_some {bl wd : Nat} {D : Nat → Nat → Int32} {sb k : Nat} {seen : Nat → Bool} {r : ARun} {sn : Nat → Bool} (hw : 11 ≤ wd ∧ wd ≤ 40) (hbl : bl ≤ 200) (h : rdRun bl wd D sb k seen = some (r, sn)) : RunOK bl wd D r ∧ 0 ≤ r.2.2.2 ∧ D sb (3 + 4 * k) = nI (r.1.headD 0) ∧ D sb (3 + 4 * k + 1) = nI r.2.1 ∧ D sb (3 + 4 * k + 2) = nI r.2.2.1 ∧ D sb (3 + 4 * k + 3) = r.2.2.2 ∧ (∀ j, sn j = (seen j || r.1.contains j)) := by
  unfold rdRun at h
  split at h
  · cases h
  · rename_i c
    rw [not_or, not_or, not_or] at c
    obtain ⟨c1, c2, c3, c4⟩ := c
    cases hk : chk bl wd D ((D sb (3 + 4 * k + 1)).toNatClampNeg + (D sb (3 + 4 * k + 2)).toNatClampNeg) ((D sb (3 + 4 * k + 1)).toNatClampNeg + (D sb (3 + 4 * k + 2)).toNatClampNeg + 1) 0 (D sb (3 + 4 * k + 1)).toNatClampNeg (D sb (3 + 4 * k)) 0 seen with
    | none => rw [hk] at h; cases h
    | some x =>
      rw [hk] at h
      simp only [Option.some.injEq, Prod.mk.injEq] at h
      obtain ⟨rfl, rfl⟩ := h
      obtain ⟨i1, i2, i3, i4, i5, i6, i7⟩ := chk_some hbl _ _ _ _ _ _ x.1 x.2 hk
      have hc0 : ¬ D sb (3 + 4 * k + 2) < 0 := fun q => c2 (Int32.lt_of_lt_of_le q (by decide))
      obtain ⟨e2, hl2⟩ := nI_ofI hc0
      obtain ⟨e1, hl1⟩ := nI_ofI c3
      have hc1 : 1 ≤ (D sb (3 + 4 * k + 2)).toNatClampNeg := by
        rw [e2, li1, lt_nI hl2 (by omega)] at c2; omega
      have hf1 : (D sb (3 + 4 * k + 1)).toNatClampNeg < wd - 2 := by
        rw [e1, le_nI (by omega) hl1] at c4; omega
      have hlen := nodup_len bl i4 (fun x hx => (i3 x hx).2.1)
      have h0 : 1 ≤ x.1.length := by
        rcases Nat.eq_zero_or_pos x.1.length with q | q
        · rw [q, Nat.add_zero, Nat.zero_mul] at i6; omega
        · exact q
      refine ⟨⟨?_, show x.1.length ≤ 200 by omega, hc1, hf1, fun y hy => ⟨(i3 y hy).1, (i3 y hy).2.1⟩, i2⟩, Int32.not_lt.mp c1, i1, e1, e2, rfl, i5⟩
      show x.1.length = ((D sb (3 + 4 * k + 1)).toNatClampNeg + (D sb (3 + 4 * k + 2)).toNatClampNeg + (wd - 3)) / (wd - 2)
      generalize (D sb (3 + 4 * k + 1)).toNatClampNeg + (D sb (3 + 4 * k + 2)).toNatClampNeg = E at *
      rw [Nat.zero_add] at i6
      have i7 := i7 h0
      rw [Nat.zero_add] at i7
      have q1 : x.1.length * (wd - 2) = (x.1.length - 1) * (wd - 2) + (wd - 2) := by
        obtain ⟨q, hq⟩ : ∃ q, x.1.length = q + 1 := ⟨x.1.length - 1, by omega⟩
        rw [hq, Nat.succ_mul]; rfl
      refine (Nat.div_eq_of_lt_le ?_ ?_).symm
      · omega
      · rw [Nat.succ_mul]; omega
def rdN (bl wd : Nat) (D : Nat → Nat → Int32) (sb : Nat) : Nat → Option (List ARun × (Nat → Bool))
  | 0 => some ([], fun _ => false)
  | n + 1 => match rdN bl wd D sb n with
    | none => none
    | some x => match rdRun bl wd D sb n x.2 with
      | none => none
      | some y => some (x.1 ++ [y.1], y.2)
theorem rdN_mono {bl wd : Nat} {D : Nat → Nat → Int32} {sb n m : Nat} (h : rdN bl wd D sb n = none) (hm : n ≤ m) : rdN bl wd D sb m = none := by
  induction m with
  | zero => rw [show n = 0 by omega] at h; cases h
  | succ m ih =>
    by_cases e : n = m + 1
    · rw [← e]; exact h
    · unfold rdN; rw [ih (by omega)]
theorem rdN_some {bl wd : Nat} {D : Nat → Nat → Int32} {sb : Nat} (hw : 11 ≤ wd ∧ wd ≤ 40) (hbl : bl ≤ 200) : ∀ (n : Nat) (rs : List ARun) (sn : Nat → Bool), rdN bl wd D sb n = some (rs, sn) → rs.length = n ∧ (∀ r, r ∈ rs → RunOK bl wd D r ∧ 0 ≤ r.2.2.2) ∧ (∀ i, i < n → D sb (3 + 4 * i) = nI ((getF rs i).1.headD 0) ∧ D sb (3 + 4 * i + 1) = nI (getF rs i).2.1 ∧ D sb (3 + 4 * i + 2) = nI (getF rs i).2.2.1 ∧ D sb (3 + 4 * i + 3) = (getF rs i).2.2.2) ∧ (∀ j, sn j = mkN (getF rs) n j) := by
  intro n
  induction n with
  | zero =>
    intro rs sn h
    cases h
    exact ⟨rfl, fun r hr => absurd hr (by simp), fun i hi => absurd hi (by omega), fun j => rfl⟩
  | succ n ih =>
    intro rs sn h
    unfold rdN at h
    cases h1 : rdN bl wd D sb n with
    | none => rw [h1] at h; cases h
    | some x =>
      rw [h1] at h
      simp only at h
      cases h2 : rdRun bl wd D sb n x.2 with
      | none => rw [h2] at h; cases h
      | some y =>
        rw [h2] at h
        simp only [Option.some.injEq, Prod.mk.injEq] at h
        obtain ⟨rfl, rfl⟩ := h
        obtain ⟨j1, j2, j3, j4⟩ := ih x.1 x.2 h1
        obtain ⟨k1, k2, k3, k4, k5, k6, k7⟩ := rdRun_some hw hbl h2
        refine ⟨by rw [List.length_append, List.length_singleton, j1], fun r hr => ?_, fun i hi => ?_, fun j => ?_⟩
        · rcases List.mem_append.mp hr with q | q
          · exact j2 r q
          · rw [List.mem_singleton] at q; rw [q]; exact ⟨k1, k2⟩
        · by_cases e : i = n
          · subst e
            have : getF (x.1 ++ [y.1]) i = y.1 := by have := getF_eq (l := x.1) (x := y.1); rw [j1] at this; exact this
            rw [this]; exact ⟨k3, k4, k5, k6⟩
          · rw [getF_lt (by omega)]; exact j3 i (by omega)
        · have e1 : getF (x.1 ++ [y.1]) n = y.1 := by have := getF_eq (l := x.1) (x := y.1); rw [j1] at this; exact this
          have e2 : ∀ m, m ≤ n → mkN (getF (x.1 ++ [y.1])) m j = mkN (getF x.1) m j := by
            intro m
            induction m with
            | zero => intro _; rfl
            | succ m ihm => intro hm; unfold mkN; rw [ihm (by omega), getF_lt (by omega)]
          unfold mkN
          rw [k7 j, j4 j, e1, e2 n (Nat.le_refl _)]
def rdSuper (bl wd : Nat) (D : Nat → Nat → Int32) (sb : Nat) : Option (List ARun × (Nat → Bool)) :=
  if D sb 0 = sumN (D sb) wd ∧ ¬ D sb 1 < 1 ∧ pb (D sb 1) = sb ∧ ¬ D sb 2 < 0 ∧ ¬ nI ((wd - 3) / 4) < D sb 2 then rdN bl wd D sb (D sb 2).toNatClampNeg else none
/-- the rest of a division by 2 is the last bit -/
theorem rem2 {e : Int32} (h : ¬ e < 1) : e - e / 2 * 2 = nI (pb e) := by
  have h0 : ¬ e < 0 := fun q => h (Int32.lt_of_lt_of_le q (by decide))
  obtain ⟨ee, hl⟩ := nI_ofI h0
  generalize e.toNatClampNeg = j at *
  subst ee
  rw [← and1, li2, pk_div hl (by omega) (by omega), pk_mul, pk_sub (by omega)]
  have : nI j &&& 1 = nI (j % 2) := by
    apply Int32.toBitVec_inj.mp
    rw [Int32.toBitVec_and]
    show BitVec.ofNat 32 j &&& BitVec.ofNat 32 1 = BitVec.ofNat 32 (j % 2)
    rw [← BitVec.ofNat_and, Nat.and_one_is_mod]
  rw [this]
  congr 1; omega
