/-! The class: least of memory; rows; sums; writes. -/
theorem c_memleast {s : gS} {Q : Int32 → gS → Prop} {kc : List Int32} (hm : s.1 7 = nI kc.length) (hlt : kc.length ≤ 100) (hh : Hold (s.2 2) kc) (h : Q (if kc.length = 0 then -1 else kc.getD (kc.length - 1) 0) s) : wp_Memory_least s Q := by
  unfold wp_Memory_least
  rw [hm]
  by_cases e : kc.length = 0
  · rw [if_pos e] at h
    refine br_t (by rw [show (0 : Int32) = nI 0 from rfl, le_nI (by omega) (by omega)]; omega) h
  · rw [if_neg e] at h
    refine br_f (by rw [show (0 : Int32) = nI 0 from rfl, le_nI (by omega) (by omega)]; omega) ?_
    have e1 : nI kc.length - 1 = nI (kc.length - 1) := pk_sub (a := kc.length) (b := 1) (by omega)
    rw [e1, cl_nI (by omega), hh _ (by omega)]
    exact ⟨vp_in_nI (by omega) (by omega), h⟩
theorem c_memtake {s : gS} {Q : Int32 → gS → Prop} {kc : List Int32} (hm : s.1 7 = nI kc.length) (hlt : kc.length ≤ 100) (h0 : 0 < kc.length) (hh : Hold (s.2 2) kc) (h : Q (kc.getD (kc.length - 1) 0) (up s.1 7 (nI (kc.length - 1)), s.2)) : wp_Memory_takeLeast s Q := by
  unfold wp_Memory_takeLeast
  refine c_memleast hm hlt hh ?_
  rw [if_neg (by omega), hm]
  refine br_f (by rw [show (0 : Int32) = nI 0 from rfl, le_nI (by omega) (by omega)]; omega) ?_
  rintro v rfl
  have e1 : nI kc.length - 1 = nI (kc.length - 1) := pk_sub (a := kc.length) (b := 1) (by omega)
  rw [e1]
  exact h
theorem c_memmany {s : gS} {Q : Int32 → gS → Prop} (h : Q (s.1 7) s) : wp_Memory_howMany s Q := h
theorem c_memfull {s : gS} {Q : Int32 → gS → Prop} {n mm : Nat} (hm : s.1 7 = nI n) (h8 : s.1 8 = nI mm) (hn : n ≤ 100) (h9 : mm ≤ 100) (h : Q (bI (decide (mm ≤ n))) s) : wp_Memory_isFull s Q := by
  unfold wp_Memory_isFull
  rw [hm, h8]
  by_cases e : mm ≤ n
  · rw [decide_eq_true e] at h
    exact br_f (by rw [lt_nI (by omega) (by omega)]; omega) h
  · rw [decide_eq_false e] at h
    exact br_t (by rw [lt_nI (by omega) (by omega)]; omega) h
/-! filling -/
theorem c_fill2 {s : gS} {Q : gS → Prop} (h : ∀ f : Nat → Int32, (∀ j, j < 8000 → f j = 0) → Q (s.1, ua s.2 0 f)) : wp_Arrays_fill_2 0 s Q := by
  have key : ∀ (m i : Nat) (f : Nat → Int32), i + m = 8000 → (∀ j, j < i → f j = 0) → wl_Arrays_fill_2_5 Q (fun _ s5 => Q s5) 0 8000 (m + 1) (nI i) (s.1, ua s.2 0 f) := by
    intro m
    induction m with
    | zero =>
      intro i f hi hf
      exact br_t (by rw [show (8000 : Int32) = nI 8000 from rfl, le_nI (by omega) (by omega)]; omega) (h f (fun j hj => hf j (by omega)))
    | succ m ih =>
      intro i f hi hf
      refine br_f (by rw [show (8000 : Int32) = nI 8000 from rfl, le_nI (by omega) (by omega)]; omega) ⟨vp_in_nI (by omega) (by omega), ?_⟩
      rintro v rfl
      have := ih (i + 1) (upd f i 0) (by omega) (fun j hj => by
        by_cases e : j = i
        · rw [e, upd_s]
        · rw [upd_n e]; exact hf j (by omega))
      show wl_Arrays_fill_2_5 Q (fun _ s5 => Q s5) 0 8000 (m + 1) (nI i + 1) (s.1, ua (ua s.2 0 f) 0 (upd (ua s.2 0 f 0) (nI i).toNatClampNeg 0))
      rw [ua_ua, ua_s, cl_nI (by omega), nI_1]
      exact this
  refine ⟨8001, ?_⟩
  have := key 8000 0 (s.2 0) rfl (fun j hj => absurd hj (by omega))
  rw [ua_id] at this
  exact this
theorem c_fill3 {s : gS} {Q : gS → Prop} (h : ∀ f : Nat → Int32, (∀ j, j < 40 → f j = 0) → Q (s.1, ua s.2 1 f)) : wp_Arrays_fill_3 0 s Q := by
  have key : ∀ (m i : Nat) (f : Nat → Int32), i + m = 40 → (∀ j, j < i → f j = 0) → wl_Arrays_fill_3_5 Q (fun _ s5 => Q s5) 0 40 (m + 1) (nI i) (s.1, ua s.2 1 f) := by
    intro m
    induction m with
    | zero =>
      intro i f hi hf
      exact br_t (by rw [show (40 : Int32) = nI 40 from rfl, le_nI (by omega) (by omega)]; omega) (h f (fun j hj => hf j (by omega)))
    | succ m ih =>
      intro i f hi hf
      refine br_f (by rw [show (40 : Int32) = nI 40 from rfl, le_nI (by omega) (by omega)]; omega) ⟨vp_in_nI (by omega) (by omega), ?_⟩
      rintro v rfl
      have := ih (i + 1) (upd f i 0) (by omega) (fun j hj => by
        by_cases e : j = i
        · rw [e, upd_s]
        · rw [upd_n e]; exact hf j (by omega))
      show wl_Arrays_fill_3_5 Q (fun _ s5 => Q s5) 0 40 (m + 1) (nI i + 1) (s.1, ua (ua s.2 1 f) 1 (upd (ua s.2 1 f 1) (nI i).toNatClampNeg 0))
      rw [ua_ua, ua_s, cl_nI (by omega), nI_1]
      exact this
  refine ⟨41, ?_⟩
  have := key 40 0 (s.2 1) rfl (fun j hj => absurd hj (by omega))
  rw [ua_id] at this
  exact this
theorem c_clearRow {s : gS} {Q : gS → Prop} (h : ∀ f : Nat → Int32, (∀ j, j < 40 → f j = 0) → Q (s.1, ua s.2 1 f)) : wp_Disk_clearRow s Q := c_fill3 h
theorem c_setRow {s : gS} {Q : gS → Prop} {i : Nat} {x : Int32} (hi : i < 40) (h : Q (s.1, ua s.2 1 (upd (s.2 1) i x))) : wp_Disk_setRow (nI i) x s Q := by
  unfold wp_Disk_setRow
  refine br_f (nI_pos (by omega)) (br_f (by rw [show (40 : Int32) = nI 40 from rfl, le_nI (by omega) (by omega)]; omega) ⟨vp_in_nI hi (by omega), ?_⟩)
  rw [cl_nI (by omega)]
  exact h
/-- the sum of a block's words, up to place n -/
def sumN (w : Nat → Int32) : Nat → Int32
  | 0 => 7
  | 1 => 7
  | n + 2 => sumN w (n + 1) + w (n + 1) * nI (2 * (n + 1) + 1)
theorem sumN_congr {w w' : Nat → Int32} (n : Nat) (h : ∀ i, 1 ≤ i → i < n → w i = w' i) : sumN w n = sumN w' n := by
  induction n with
  | zero => rfl
  | succ n ih =>
    cases n with
    | zero => rfl
    | succ n => unfold sumN; rw [ih (fun i h1 h2 => h i h1 (by omega)), h (n + 1) (by omega) (by omega)]
theorem c_sumOf {s : gS} {bl wd mm fn : Nat} {D : Nat → Nat → Int32} (hB : BC s bl wd mm fn D) {b : Nat} (hb : b < bl) {Q : Int32 → gS → Prop} (h : Q (sumN (D b) wd) s) : wp_Disk_sumOf (nI b) s Q := by
  obtain ⟨h3, h4, -, -, ⟨z1, z2, z3, z4, -⟩, hD⟩ := hB
  have key : ∀ (m i : Nat), i + m = wd → 1 ≤ i → wl_Disk_sumOf_25 Q (fun v _ s5 => Q v s5) (nI b) (nI (b * wd)) (m + 1) (sumN (D b) i) (nI i) s := by
    intro m
    induction m with
    | zero =>
      intro i hi h1
      have : i = wd := by omega
      subst this
      refine br_t (by rw [h4, le_nI (by omega) (by omega)]; omega) h
    | succ m ih =>
      intro i hi h1
      have h8 := mulwd (i := i) hb (by omega : i < wd) z2 z4
      refine br_f (by rw [h4, le_nI (by omega) (by omega)]; omega) ?_
      rw [nI_add]
      refine ⟨vp_in_nI h8 (by omega), ?_⟩
      rw [cl_nI (by omega), hD b i hb (by omega)]
      rintro v rfl v2 rfl
      have e1 : (2 : Int32) * nI i + 1 = nI (2 * i + 1) := by
        rw [show (2 : Int32) = nI 2 from rfl, pk_mul, nI_1]
      rw [e1, nI_1]
      obtain ⟨i, rfl⟩ : ∃ j, i = j + 1 := ⟨i - 1, by omega⟩
      exact ih (i + 2) (by omega) (by omega)
  unfold wp_Disk_sumOf
  refine br_f (nI_pos (by omega)) (br_f (by rw [h3, le_nI (by omega) (by omega)]; omega) ?_)
  rintro v rfl
  refine ⟨wd, ?_⟩
  rw [h4, pk_mul]
  obtain ⟨w, rfl⟩ : ∃ w, wd = w + 1 := ⟨wd - 1, by omega⟩
  exact key w 1 (by omega) (Nat.le_refl 1)
