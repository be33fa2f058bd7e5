/-! The class: a block is written. -/
theorem up_id (f : Nat → Int32) (k : Nat) : up f k (f k) = f := by
  funext j
  by_cases h : j = k
  · subst h; exact up_s f j (f j)
  · exact up_n (by cases hb : Nat.beq j k with | false => rfl | true => exact absurd (Nat.eq_of_beq_eq_true hb) h)
theorem p2s (a : Nat → Int32) (g : Nat → Nat → Int32) (k : Nat) (f : Nat → Int32) : ((a, ua g k f) : gS).2 k = f := ua_s g k f
theorem p2n {a : Nat → Int32} {g : Nat → Nat → Int32} {k j : Nat} {f : Nat → Int32} (h : Nat.beq j k = false) : ((a, ua g k f) : gS).2 j = g j := ua_n h
theorem idx_lt {b b' i wd : Nat} (h : b' < b) (hi : i < wd) : b' * wd + i < b * wd := by
  have h1 : (b' + 1) * wd ≤ b * wd := Nat.mul_le_mul_right wd h
  rw [Nat.succ_mul] at h1
  omega
theorem idx_in {b b' i wd : Nat} (hi : i < wd) : (b * wd ≤ b' * wd + i ∧ b' * wd + i < b * wd + wd) ↔ b' = b := by
  constructor
  · rintro ⟨h1, h2⟩
    rcases Nat.lt_trichotomy b' b with h | h | h
    · have := idx_lt h hi; omega
    · exact h
    · have h3 : (b + 1) * wd ≤ b' * wd := Nat.mul_le_mul_right wd h
      rw [Nat.succ_mul] at h3
      omega
  · rintro rfl; omega
theorem idx_eq {b b' i j wd : Nat} (hi : i < wd) (hj : j < wd) : b' * wd + i = b * wd + j ↔ b' = b ∧ i = j := by
  constructor
  · intro h
    have : b' = b := (idx_in hi).mp ⟨by omega, by omega⟩
    subst this
    exact ⟨rfl, by omega⟩
  · rintro ⟨rfl, rfl⟩; rfl
/-- block b written with row w -/
def wrB (D : Nat → Nat → Int32) (wd b : Nat) (w : Nat → Int32) : Nat → Nat → Int32 := fun b' i => if b' = b then (if i = 0 then sumN w wd else w i) else D b' i
theorem wrB_n {D : Nat → Nat → Int32} {wd b b' i : Nat} {w : Nat → Int32} (h : b' ≠ b) : wrB D wd b w b' i = D b' i := by unfold wrB; rw [if_neg h]
theorem wrB_s {D : Nat → Nat → Int32} {wd b i : Nat} {w : Nat → Int32} (h : i ≠ 0) : wrB D wd b w b i = w i := by unfold wrB; rw [if_pos rfl, if_neg h]
/-- the write itself, the cut being settled: st is the state in which it's done -/
theorem c_writeIt {s : gS} {bl wd mm fn : Nat} {D : Nat → Nat → Int32} (hB : BC s bl wd mm fn D) {b : Nat} (hb : b < bl) {Q : Int32 → gS → Prop}
    (h : ∀ f : Nat → Int32, BC (up s.1 5 (s.1 5 + 1), ua s.2 0 f) bl wd mm fn (wrB D wd b (s.2 1)) → Q 1 (up s.1 5 (s.1 5 + 1), ua s.2 0 f)) :
    ((nI b < 0 → Q 1 s) ∧ (¬ nI b < 0 → (((s.1 3) ≤ nI b → Q 1 s) ∧ (¬ (s.1 3) ≤ nI b → (¬ (0 : Int32) < 0 ∧ ¬ (nI b * (s.1 4)) < 0 ∧ ¬ (s.1 4) < 0 ∧ (0 : Int32).toNatClampNeg + (s.1 4).toNatClampNeg ≤ 40 ∧ (nI b * (s.1 4)).toNatClampNeg + (s.1 4).toNatClampNeg ≤ 8000) ∧ (wp_Disk_sumOf (nI b) (s.1, ua s.2 0 (va_cpy (s.2 1) (s.2 0) (0 : Int32).toNatClampNeg (nI b * (s.1 4)).toNatClampNeg (s.1 4).toNatClampNeg)) (fun r6 s5 => vp_in ((nI b * (s.1 4)) + 0) 8000 ∧ (∀ v8 : Int32, v8 = (s5.1 5) + 1 → Q 1 (up s5.1 5 (v8), ua s5.2 0 (upd (s5.2 0) ((nI b * (s.1 4)) + 0).toNatClampNeg r6))))))))) := by
  obtain ⟨h3, h4, h5, h6, ⟨z1, z2, z3, z4, z5⟩, hD⟩ := hB
  have h8 := mulwd (i := wd - 1) hb (by omega : wd - 1 < wd) z2 z4
  rw [h3, h4, pk_mul]
  refine br_f (nI_pos (by omega)) (br_f (by rw [le_nI (by omega) (by omega)]; omega) ⟨⟨by decide, nI_pos (by omega), nI_pos (by omega), ?_, ?_⟩, ?_⟩)
  · rw [sb_cl0, cl_nI (by omega)]; omega
  · rw [cl_nI (by omega), cl_nI (by omega)]; omega
  · rw [sb_cl0, cl_nI (n := b * wd) (by omega), cl_nI (n := wd) (by omega)]
    have e0 : nI (b * wd) + 0 = nI (b * wd) := by rw [show (0 : Int32) = nI 0 from rfl, nI_add]; rfl
    rw [e0]
    have hB1 : BC (s.1, ua s.2 0 (va_cpy (s.2 1) (s.2 0) 0 (b * wd) wd)) bl wd mm fn (fun b' i => if b' = b then s.2 1 i else D b' i) := by
      refine ⟨h3, h4, h5, h6, ⟨z1, z2, z3, z4, z5⟩, fun b' i hb' hi => ?_⟩
      rw [p2s]
      show _ = (if b' = b then s.2 1 i else D b' i)
      by_cases e : b' = b
      · subst e
        rw [pk_cpy_in (f := s.2 1) (g := s.2 0) (sp := 0) (dp := b' * wd) (n := wd) (j := b' * wd + i) (by omega) (by omega), if_pos rfl, show 0 + (b' * wd + i - b' * wd) = i by omega]
      · rw [pk_cpy_out (by
          rcases Nat.lt_or_ge (b' * wd + i) (b * wd) with q | q
          · exact Or.inl q
          · rcases Nat.lt_or_ge (b' * wd + i) (b * wd + wd) with q2 | q2
            · exact absurd ((idx_in hi).mp ⟨q, q2⟩) e
            · exact Or.inr q2), if_neg e]
        exact hD b' i hb' hi
    refine c_sumOf hB1 hb ⟨vp_in_nI (by omega) (by omega), ?_⟩
    rintro v rfl
    show Q 1 (up s.1 5 (s.1 5 + 1), ua (ua s.2 0 (va_cpy (s.2 1) (s.2 0) 0 (b * wd) wd)) 0 (upd (ua s.2 0 (va_cpy (s.2 1) (s.2 0) 0 (b * wd) wd) 0) (nI (b * wd)).toNatClampNeg (sumN (fun i => if b = b then s.2 1 i else D b i) wd)))
    rw [ua_ua, ua_s, cl_nI (by omega)]
    refine h _ ⟨h3, h4, h5, h6, ⟨z1, z2, z3, z4, z5⟩, fun b' i hb' hi => ?_⟩
    rw [p2s]
    by_cases e : b' * wd + i = b * wd
    · obtain ⟨rfl, rfl⟩ := (idx_eq (b := b) (j := 0) hi (by omega)).mp e
      rw [e, upd_s]
      unfold wrB
      rw [if_pos rfl, if_pos rfl]
      exact sumN_congr wd (fun i _ _ => by rw [if_pos rfl])
    · rw [upd_n e]
      have := hB1.2.2.2.2.2 b' i hb' hi
      have this : ua s.2 0 (va_cpy (s.2 1) (s.2 0) 0 (b * wd) wd) 0 (b' * wd + i) = (if b' = b then s.2 1 i else D b' i) := this
      rw [ua_s] at this
      rw [this]
      unfold wrB
      by_cases e2 : b' = b
      · subst e2
        rw [if_pos rfl, if_pos rfl, if_neg (fun q => e (by rw [q]; rfl))]
      · rw [if_neg e2, if_neg e2]
theorem c_writeRow {s : gS} {bl wd mm fn : Nat} {D : Nat → Nat → Int32} (hB : BC s bl wd mm fn D) {b cut : Nat} (hb : b < bl) (hc : s.1 6 = nI cut) (hcl : cut ≤ 10000) {Q : Int32 → gS → Prop}
    (h1 : cut = 1 → Q 0 (up s.1 6 0, s.2))
    (h2 : cut ≠ 1 → ∀ f : Nat → Int32, BC (up (up s.1 6 (nI (cut - 1))) 5 (s.1 5 + 1), ua s.2 0 f) bl wd mm fn (wrB D wd b (s.2 1)) → Q 1 (up (up s.1 6 (nI (cut - 1))) 5 (s.1 5 + 1), ua s.2 0 f)) : wp_Disk_writeRow (nI b) s Q := by
  unfold wp_Disk_writeRow
  by_cases c0 : cut = 0
  · refine br_t (by rw [hc, c0]; decide) ?_
    have e : up s.1 6 (nI (cut - 1)) = s.1 := by
      rw [c0]
      have := up_id s.1 6
      rw [hc, c0] at this
      exact this
    have h2 := h2 (by omega)
    rw [e] at h2
    exact c_writeIt hB hb h2
  · refine br_f (by rw [hc, show (0 : Int32) = nI 0 from rfl, le_nI (by omega) (by omega)]; omega) ?_
    have e1 : nI cut - 1 = nI (cut - 1) := pk_sub (a := cut) (b := 1) (by omega)
    rw [hc, e1]
    rintro v rfl
    by_cases c1 : cut = 1
    · subst c1
      exact ⟨fun q => absurd rfl q, fun _ => h1 rfl⟩
    · refine ⟨fun _ => ?_, fun q => absurd q (by rw [show (0 : Int32) = nI 0 from rfl, eq_nI (by omega) (by omega)]; omega)⟩
      exact c_writeIt (s := (up s.1 6 (nI (cut - 1)), s.2)) hB hb (h2 c1)
