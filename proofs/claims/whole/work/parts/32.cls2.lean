/-! The class: memory (falling), the rows of the disk. -/
def Fall (l : List Int32) : Prop := l.Pairwise (fun a b => b ≤ a)
theorem hold_nil (f : Nat → Int32) : Hold f [] := fun i h => absurd h (by simp)
/-- the keys before place i of a list, in an array -/
theorem getD_lt {l : List Int32} {i : Nat} (h : i < l.length) : l.getD i 0 = l[i] := by simp [List.getD, h]
/-- where a key goes: behind all that are at least as great -/
def insF (k : Int32) : List Int32 → List Int32
  | [] => [k]
  | x :: t => if x < k then k :: x :: t else x :: insF k t
theorem insF_len (k : Int32) (l : List Int32) : (insF k l).length = l.length + 1 := by
  induction l with
  | nil => rfl
  | cons x t ih => unfold insF; split <;> simp [ih]
theorem insF_perm (k : Int32) (l : List Int32) : (insF k l).Perm (k :: l) := by
  induction l with
  | nil => exact List.Perm.refl _
  | cons x t ih =>
    unfold insF
    split
    · exact List.Perm.refl _
    · exact (List.Perm.cons x ih).trans (List.Perm.swap k x t)
theorem insF_fall {k : Int32} {l : List Int32} (h : Fall l) : Fall (insF k l) := by
  induction l with
  | nil => exact List.pairwise_singleton _ _
  | cons x t ih =>
    have ⟨h1, h2⟩ := List.pairwise_cons.mp h
    unfold insF
    split
    · rename_i hx
      refine List.pairwise_cons.mpr ⟨fun y hy => ?_, h⟩
      rcases List.mem_cons.mp hy with rfl | hy
      · exact Int32.le_of_lt hx
      · exact Int32.le_trans (h1 y hy) (Int32.le_of_lt hx)
    · rename_i hx
      refine List.pairwise_cons.mpr ⟨fun y hy => ?_, ih h2⟩
      rcases List.mem_cons.mp ((insF_perm k t).mem_iff.mp hy) with rfl | hy
      · exact Int32.not_lt.mp hx
      · exact h1 y hy
theorem fall_get {l : List Int32} (h : Fall l) {i j : Nat} (hij : i ≤ j) (hj : j < l.length) : l.getD j 0 ≤ l.getD i 0 := by
  rcases Nat.lt_or_eq_of_le hij with q | q
  · rw [getD_lt hj, getD_lt (Nat.lt_trans q hj)]
    exact List.pairwise_iff_getElem.mp h i j (Nat.lt_trans q hj) hj q
  · subst q; exact Int32.le_refl _
/-- p: the place where k goes into the falling list l -/
theorem insF_at {k : Int32} {l : List Int32} {p : Nat} (hp : p ≤ l.length) (h1 : ∀ i, i < p → ¬ l.getD i 0 < k) (h2 : p < l.length → l.getD p 0 < k) : ∀ i, (insF k l).getD i 0 = if i < p then l.getD i 0 else if i = p then k else l.getD (i - 1) 0 := by
  induction l generalizing p with
  | nil =>
    intro i
    have : p = 0 := by simpa using hp
    subst this
    cases i <;> simp [insF]
  | cons x t ih =>
    intro i
    cases p with
    | zero =>
      have hx : x < k := h2 (by simp)
      unfold insF
      rw [if_pos hx]
      cases i <;> simp
    | succ p =>
      have hx : ¬ x < k := h1 0 (by omega)
      unfold insF
      rw [if_neg hx]
      cases i with
      | zero => simp
      | succ i =>
        have := ih (p := p) (by simpa using hp) (fun j hj => h1 (j + 1) (by omega)) (fun hq => h2 (by simpa using hq)) i
        simp only [List.getD_cons_succ] at this ⊢
        rw [this]
        by_cases c1 : i < p
        · simp [c1]
        · by_cases c2 : i = p
          · simp [c2]
          · have : i - 1 + 1 = i := by omega
            simp only [c1, c2, if_false, show ¬ i + 1 < p + 1 by omega, show ¬ i + 1 = p + 1 by omega, Nat.add_sub_cancel]
            rw [← this, List.getD_cons_succ, Nat.add_sub_cancel]
theorem c_memadd {s : gS} {Q : gS → Prop} {k : Int32} {kc : List Int32} (hm : s.1 7 = nI kc.length) (hlt : kc.length < 100) (hh : Hold (s.2 2) kc) (hf : Fall kc) (h : ∀ f : Nat → Int32, Hold f (insF k kc) → Q (up s.1 7 (nI (kc.length + 1)), ua s.2 2 f)) : wp_Memory_add k s Q := by
  unfold wp_Memory_add
  rw [hm]
  refine br_t (by rw [show (100 : Int32) = nI 100 from rfl, lt_nI (by omega) (by omega)]; omega) ?_
  rintro v1 rfl
  have key : ∀ (m : Nat) (f : Nat → Int32), m ≤ kc.length → (∀ i, i < m → f i = kc.getD i 0) → (∀ i, m < i → i ≤ kc.length → f i = kc.getD (i - 1) 0) → (m < kc.length → kc.getD m 0 < k) →
      wl_Memory_add_18 Q (fun v12 s11 => vp_in v12 100 ∧ (∀ v14 : Int32, v14 = (s11.1 7) + 1 → Q (up s11.1 7 (v14), ua s11.2 2 (upd (s11.2 2) v12.toNatClampNeg k)))) k (m + 1) (nI m) (s.1, ua s.2 2 f) := by
    intro m
    induction m with
    | zero =>
      intro f hm0 h1 h2 h3
      refine br_t (by decide) ⟨vp_in_nI (by omega) (by omega), ?_⟩
      rintro v rfl
      show Q (up s.1 7 (s.1 7 + 1), ua (ua s.2 2 f) 2 (upd (ua s.2 2 f 2) (nI 0).toNatClampNeg k))
      rw [ua_ua, ua_s, cl_nI (by omega), hm, nI_1]
      refine h _ (fun i hi => ?_)
      rw [insF_at (p := 0) (by omega) (fun i hi => absurd hi (by omega)) h3 i]
      rw [insF_len] at hi
      by_cases e : i = 0
      · subst e; rw [upd_s]; simp
      · rw [upd_n e, h2 i (by omega) (by omega)]; simp [e]
    | succ m ih =>
      intro f hm0 h1 h2 h3
      refine br_f (by rw [show (0 : Int32) = nI 0 from rfl, le_nI (by omega) (by omega)]; omega) ?_
      rw [nI_pred]
      refine ⟨vp_in_nI (by omega) (by omega), ?_⟩
      rw [cl_nI (by omega)]
      show ((k ≤ (ua s.2 2 f 2) m → _) ∧ (¬ k ≤ (ua s.2 2 f 2) m → _))
      rw [ua_s, h1 m (by omega)]
      refine ⟨fun c => ?_, fun c => ?_⟩
      · refine ⟨vp_in_nI (by omega) (by omega), ?_⟩
        rintro v rfl
        show Q (up s.1 7 (s.1 7 + 1), ua (ua s.2 2 f) 2 (upd (ua s.2 2 f 2) (nI (m + 1)).toNatClampNeg k))
        rw [ua_ua, ua_s, cl_nI (by omega), hm, nI_1]
        refine h _ (fun i hi => ?_)
        rw [insF_at (p := m + 1) (by omega) (fun i hi => Int32.not_lt.mpr (Int32.le_trans c (fall_get hf (by omega) (by omega)))) h3 i]
        rw [insF_len] at hi
        by_cases e : i = m + 1
        · subst e; rw [upd_s]; simp
        · rw [upd_n e]
          by_cases c1 : i < m + 1
          · rw [if_pos c1]; exact h1 i c1
          · rw [if_neg c1, if_neg e]; exact h2 i (by omega) (by omega)
      · refine ⟨vp_in_nI (by omega) (by omega), ?_⟩
        intro v8 e8
        refine ⟨vp_in_nI (by omega) (by omega), ?_⟩
        rintro v9 rfl
        have := ih (upd f (m + 1) (kc.getD m 0)) (by omega) (fun i hi => by rw [upd_n (by omega)]; exact h1 i (by omega)) (fun i hi hi2 => by
          by_cases e : i = m + 1
          · subst e; rw [upd_s]; simp
          · rw [upd_n e]; exact h2 i (by omega) hi2) (fun _ => Int32.not_le.mp c)
        show wl_Memory_add_18 Q _ k (m + 1) (nI (m + 1) + Int32.ofInt (-1)) (s.1, ua (ua s.2 2 f) 2 (upd (ua s.2 2 f 2) (nI (m + 1)).toNatClampNeg v8))
        have e9 : v8 = kc.getD m 0 := by
          rw [e8]; show ua s.2 2 f 2 m = _; rw [ua_s]; exact h1 m (by omega)
        rw [ua_ua, ua_s, cl_nI (by omega), e9, show Int32.ofInt (-1) = (-1 : Int32) from by decide, pk_m1]
        exact this
  refine ⟨kc.length + 1, ?_⟩
  have := key kc.length (s.2 2) (Nat.le_refl _) (fun i hi => hh i hi) (fun i h1 h2 => absurd h1 (by omega)) (fun hq => absurd hq (by omega))
  rw [ua_id] at this
  exact this
