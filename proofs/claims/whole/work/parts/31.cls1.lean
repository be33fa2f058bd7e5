/-! The class: block sets, memory. -/
theorem c_clear16 {s : gS} {Q : gS → Prop} (h : ∀ f : Nat → Int32, (∀ j, j < 200 → f j = 0) → Q (s.1, ua s.2 10 f)) : wp_BlockSet_clear_16 s Q := by
  have key : ∀ (m i : Nat) (f : Nat → Int32), i + m = 200 → (∀ j, j < i → f j = 0) → wl_BlockSet_clear_16_2 Q (fun _ s5 => Q s5) (m + 1) (nI i) (s.1, ua s.2 10 f) := by
    intro m
    induction m with
    | zero =>
      intro i f hi hf
      exact br_t (by rw [show (200 : Int32) = nI 200 from rfl, le_nI (by omega) (by omega)]; omega) (h f (fun j hj => hf j (by omega)))
    | succ m ih =>
      intro i f hi hf
      refine br_f (by rw [show (200 : Int32) = nI 200 from rfl, le_nI (by omega) (by omega)]; omega) ⟨vp_in_nI (by omega) (by omega), ?_⟩
      rintro v rfl
      have := ih (i + 1) (upd f i 0) (by omega) (fun j hj => by
        by_cases e : j = i
        · rw [e, upd_s]
        · rw [upd_n e]; exact hf j (by omega))
      show wl_BlockSet_clear_16_2 Q (fun _ s5 => Q s5) (m + 1) (nI i + 1) (s.1, ua (ua s.2 10 f) 10 (upd (ua s.2 10 f 10) (nI i).toNatClampNeg (vp_nar .boolean 0)))
      rw [ua_ua, ua_s, cl_nI (by omega), nb0, nI_1]
      exact this
  refine ⟨201, ?_⟩
  have := key 200 0 (s.2 10) rfl (fun j hj => absurd hj (by omega))
  rw [ua_id] at this
  exact this
theorem c_clear14 {s : gS} {Q : gS → Prop} (h : ∀ f : Nat → Int32, (∀ j, j < 200 → f j = 0) → Q (s.1, ua s.2 9 f)) : wp_BlockSet_clear_14 s Q := by
  have key : ∀ (m i : Nat) (f : Nat → Int32), i + m = 200 → (∀ j, j < i → f j = 0) → wl_BlockSet_clear_14_2 Q (fun _ s5 => Q s5) (m + 1) (nI i) (s.1, ua s.2 9 f) := by
    intro m
    induction m with
    | zero =>
      intro i f hi hf
      exact br_t (by rw [show (200 : Int32) = nI 200 from rfl, le_nI (by omega) (by omega)]; omega) (h f (fun j hj => hf j (by omega)))
    | succ m ih =>
      intro i f hi hf
      refine br_f (by rw [show (200 : Int32) = nI 200 from rfl, le_nI (by omega) (by omega)]; omega) ⟨vp_in_nI (by omega) (by omega), ?_⟩
      rintro v rfl
      have := ih (i + 1) (upd f i 0) (by omega) (fun j hj => by
        by_cases e : j = i
        · rw [e, upd_s]
        · rw [upd_n e]; exact hf j (by omega))
      show wl_BlockSet_clear_14_2 Q (fun _ s5 => Q s5) (m + 1) (nI i + 1) (s.1, ua (ua s.2 9 f) 9 (upd (ua s.2 9 f 9) (nI i).toNatClampNeg (vp_nar .boolean 0)))
      rw [ua_ua, ua_s, cl_nI (by omega), nb0, nI_1]
      exact this
  refine ⟨201, ?_⟩
  have := key 200 0 (s.2 9) rfl (fun j hj => absurd hj (by omega))
  rw [ua_id] at this
  exact this
/-- a set of blocks, held as booleans -/
def SetH (f : Nat → Int32) (p : Nat → Bool) : Prop := ∀ j, j < 200 → f j = bI (p j)
def sAdd (p : Nat → Bool) (b : Nat) : Nat → Bool := fun j => p j || j == b
theorem setH_add {f : Nat → Int32} {p : Nat → Bool} (h : SetH f p) (b : Nat) : SetH (upd f b 1) (sAdd p b) := by
  intro j hj
  show upd f b 1 j = bI (p j || j == b)
  by_cases e : j = b
  · rw [e, upd_s, beq_self_eq_true, Bool.or_true]; rfl
  · rw [upd_n e, h j hj, beq_eq_false_iff_ne.mpr e, Bool.or_false]
theorem bI0 (b : Bool) : (bI b = 0) ↔ b = false := by cases b <;> simp [bI]
theorem c_add16 {s : gS} {Q : gS → Prop} {b : Nat} (hb : b < 200) (h : Q (s.1, ua s.2 10 (upd (s.2 10) b 1))) : wp_BlockSet_add_16 (nI b) s Q := by
  unfold wp_BlockSet_add_16
  refine br_f (nI_pos (by omega)) (br_f (by rw [show (200 : Int32) = nI 200 from rfl, le_nI (by omega) (by omega)]; omega) ⟨vp_in_nI hb (by omega), ?_⟩)
  rw [cl_nI (by omega), nb1]; exact h
theorem c_add18 {s : gS} {Q : gS → Prop} {b : Nat} (hb : b < 200) (h : Q (s.1, ua s.2 11 (upd (s.2 11) b 1))) : wp_BlockSet_add_18 (nI b) s Q := by
  unfold wp_BlockSet_add_18
  refine br_f (nI_pos (by omega)) (br_f (by rw [show (200 : Int32) = nI 200 from rfl, le_nI (by omega) (by omega)]; omega) ⟨vp_in_nI hb (by omega), ?_⟩)
  rw [cl_nI (by omega), nb1]; exact h
theorem c_add14 {s : gS} {Q : gS → Prop} {b : Nat} (hb : b < 200) (h : Q (s.1, ua s.2 9 (upd (s.2 9) b 1))) : wp_BlockSet_add_14 (nI b) s Q := by
  unfold wp_BlockSet_add_14
  refine br_f (nI_pos (by omega)) (br_f (by rw [show (200 : Int32) = nI 200 from rfl, le_nI (by omega) (by omega)]; omega) ⟨vp_in_nI hb (by omega), ?_⟩)
  rw [cl_nI (by omega), nb1]; exact h
theorem c_has {s : gS} {Q : Int32 → gS → Prop} {b : Nat} {p : Nat → Bool} {f : Nat → Int32} (hb : b < 200) (hp : SetH f p) (h : Q (bI (p b)) s) (W : Prop) (hW : W = (((nI b) < 0 → Q 0 s) ∧ (¬ (nI b) < 0 → ((200 ≤ (nI b) → Q 0 s) ∧ (¬ 200 ≤ (nI b) → vp_in (nI b) 200 ∧ (((f (nI b).toNatClampNeg) = 0 → Q 0 s) ∧ (¬ (f (nI b).toNatClampNeg) = 0 → Q 1 s))))))) : W := by
  subst hW
  refine br_f (nI_pos (by omega)) (br_f (by rw [show (200 : Int32) = nI 200 from rfl, le_nI (by omega) (by omega)]; omega) ⟨vp_in_nI hb (by omega), ?_⟩)
  rw [cl_nI (by omega), hp b hb]
  cases hpb : p b with
  | false => rw [hpb] at h; exact br_t rfl h
  | true => rw [hpb] at h; exact br_f (by decide) h
theorem c_has16 {s : gS} {Q : Int32 → gS → Prop} {b : Nat} {p : Nat → Bool} (hb : b < 200) (hp : SetH (s.2 10) p) (h : Q (bI (p b)) s) : wp_BlockSet_has_16 (nI b) s Q := c_has hb hp h _ rfl
theorem c_has18 {s : gS} {Q : Int32 → gS → Prop} {b : Nat} {p : Nat → Bool} (hb : b < 200) (hp : SetH (s.2 11) p) (h : Q (bI (p b)) s) : wp_BlockSet_has_18 (nI b) s Q := c_has hb hp h _ rfl
theorem c_has14 {s : gS} {Q : Int32 → gS → Prop} {b : Nat} {p : Nat → Bool} (hb : b < 200) (hp : SetH (s.2 9) p) (h : Q (bI (p b)) s) : wp_BlockSet_has_14 (nI b) s Q := c_has hb hp h _ rfl
theorem nbI (b : Bool) : vp_nar .boolean (bI b) = bI b := by cases b <;> decide +kernel
theorem c_copyOf {s : gS} {Q : gS → Prop} {p : Nat → Bool} (hp : SetH (s.2 10) p) (h : ∀ f : Nat → Int32, SetH f p → Q (s.1, ua s.2 11 f)) : wp_BlockSet_copyOf_18_16 s Q := by
  have key : ∀ (m i : Nat) (f : Nat → Int32), i + m = 200 → (∀ j, j < i → f j = bI (p j)) → wl_BlockSet_copyOf_18_16_2 Q (fun _ s5 => Q s5) (m + 1) (nI i) (s.1, ua s.2 11 f) := by
    intro m
    induction m with
    | zero =>
      intro i f hi hf
      exact br_t (by rw [show (200 : Int32) = nI 200 from rfl, le_nI (by omega) (by omega)]; omega) (h f (fun j hj => hf j (by omega)))
    | succ m ih =>
      intro i f hi hf
      refine br_f (by rw [show (200 : Int32) = nI 200 from rfl, le_nI (by omega) (by omega)]; omega) ?_
      refine c_has16 (p := p) (by omega) (by show SetH (ua s.2 11 f 10) p; rw [ua_n rfl]; exact hp) ⟨vp_in_nI (by omega) (by omega), ?_⟩
      rintro v rfl
      have := ih (i + 1) (upd f i (bI (p i))) (by omega) (fun j hj => by
        by_cases e : j = i
        · rw [e, upd_s]
        · rw [upd_n e]; exact hf j (by omega))
      show wl_BlockSet_copyOf_18_16_2 Q (fun _ s5 => Q s5) (m + 1) (nI i + 1) (s.1, ua (ua s.2 11 f) 11 (upd (ua s.2 11 f 11) (nI i).toNatClampNeg (vp_nar .boolean (bI (p i)))))
      rw [ua_ua, ua_s, cl_nI (by omega), nbI, nI_1]
      exact this
  refine ⟨201, ?_⟩
  have := key 200 0 (s.2 11) rfl (fun j hj => absurd hj (by omega))
  rw [ua_id] at this
  exact this
/-- power goes off -/
theorem c_off {s : gS} {Q : gS → Prop} (h : ∀ f : Nat → Int32, (∀ j, j < 200 → f j = 0) → Q (up (up (up (up (up s.1 2 0) 1 0) 7 0) 9 0) 6 0, ua s.2 10 f)) : wp_SpillQueue_powerOff s Q := by
  unfold wp_SpillQueue_powerOff
  show wp_Memory_clear _ _
  unfold wp_Memory_clear
  show wp_Runs_clear _ _
  unfold wp_Runs_clear
  exact c_clear16 (fun f hf => h f hf)
