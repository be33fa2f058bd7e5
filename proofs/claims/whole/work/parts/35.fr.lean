/-! Branches, literals, frames, the first least. -/
theorem br_nt {c A B : Prop} (h : ¬ c) (a : A) : (¬ c → A) ∧ (c → B) := ⟨fun _ => a, fun z => absurd z h⟩
theorem br_nf {c A B : Prop} (h : c) (b : B) : (¬ c → A) ∧ (c → B) := ⟨fun z => absurd h z, fun _ => b⟩
theorem li0 : (0 : Int32) = nI 0 := rfl
theorem li1 : (1 : Int32) = nI 1 := rfl
theorem li2 : (2 : Int32) = nI 2 := rfl
theorem li3 : (3 : Int32) = nI 3 := rfl
theorem li4 : (4 : Int32) = nI 4 := rfl
theorem li5 : (5 : Int32) = nI 5 := rfl
theorem li9 : (9 : Int32) = nI 9 := rfl
theorem li11 : (11 : Int32) = nI 11 := rfl
theorem li40 : (40 : Int32) = nI 40 := rfl
theorem li100 : (100 : Int32) = nI 100 := rfl
theorem li200 : (200 : Int32) = nI 200 := rfl
theorem li8000 : (8000 : Int32) = nI 8000 := rfl
theorem li10000 : (10000 : Int32) = nI 10000 := rfl
def Fr (X Y : List Nat) (s s' : gS) : Prop := (∀ k, k ∉ X → s'.1 k = s.1 k) ∧ ∀ k, k ∉ Y → s'.2 k = s.2 k
theorem Fr_refl (X Y : List Nat) (s : gS) : Fr X Y s s := ⟨fun _ _ => rfl, fun _ _ => rfl⟩
theorem Fr_trans {X Y : List Nat} {s s' s'' : gS} (h : Fr X Y s s') (h' : Fr X Y s' s'') : Fr X Y s s'' :=
  ⟨fun k hk => (h'.1 k hk).trans (h.1 k hk), fun k hk => (h'.2 k hk).trans (h.2 k hk)⟩
theorem Fr_mono {X Y X' Y' : List Nat} {s s' : gS} (h : Fr X Y s s') (hX : ∀ k, k ∈ X → k ∈ X') (hY : ∀ k, k ∈ Y → k ∈ Y') : Fr X' Y' s s' :=
  ⟨fun k hk => h.1 k (fun q => hk (hX k q)), fun k hk => h.2 k (fun q => hk (hY k q))⟩
theorem beq_ne {j k : Nat} (h : j ≠ k) : Nat.beq j k = false := by
  cases hb : Nat.beq j k with | false => rfl | true => exact absurd (Nat.eq_of_beq_eq_true hb) h
theorem Fr_a {X Y : List Nat} {s s' : gS} {j : Nat} {f : Nat → Int32} (h : Fr X Y s s') (hj : j ∈ Y) : Fr X Y s (s'.1, ua s'.2 j f) :=
  ⟨h.1, fun k hk => (show ua s'.2 j f k = s.2 k from (ua_n (beq_ne (fun (e : k = j) => hk (e ▸ hj)))).trans (h.2 k hk))⟩
theorem Fr_u {X Y : List Nat} {s s' : gS} {j : Nat} {v : Int32} (h : Fr X Y s s') (hj : j ∈ X) : Fr X Y s (up s'.1 j v, s'.2) :=
  ⟨fun k hk => (show up s'.1 j v k = s.1 k from (up_n (beq_ne (fun (e : k = j) => hk (e ▸ hj)))).trans (h.1 k hk)), h.2⟩
theorem up_i (f : Nat → Int32) (k j : Nat) (v : Int32) : up f k v j = if j = k then v else f j := by
  by_cases h : j = k
  · rw [if_pos h, h, up_s]
  · rw [if_neg h, up_n (beq_ne h)]
theorem ua_i (f : Nat → Nat → Int32) (k j : Nat) (g : Nat → Int32) : ua f k g j = if j = k then g else f j := by
  by_cases h : j = k
  · rw [if_pos h, h, ua_s]
  · rw [if_neg h, ua_n (beq_ne h)]
theorem BC_fr {s s' : gS} {bl wd mm fn : Nat} {D : Nat → Nat → Int32} (hB : BC s bl wd mm fn D) {X Y : List Nat} (h : Fr X Y s s') (h0 : 0 ∉ X ∧ 3 ∉ X ∧ 4 ∉ X ∧ 8 ∉ X) (h1 : 0 ∉ Y) : BC s' bl wd mm fn D := by
  obtain ⟨h3, h4, h5, h6, hz, hD⟩ := hB
  exact ⟨(h.1 3 h0.2.1).trans h3, (h.1 4 h0.2.2.1).trans h4, (h.1 8 h0.2.2.2).trans h5, (h.1 0 h0.1).trans h6, hz, fun b i hb hi => by rw [h.2 0 h1]; exact hD b i hb hi⟩
theorem BM_fr {s s' : gS} {bl wd mm fn : Nat} {D : Nat → Nat → Int32} (hB : BM s bl wd mm fn D) {X Y : List Nat} (h : Fr X Y s s') (h0 : 2 ∉ X ∧ 3 ∉ X ∧ 4 ∉ X ∧ 5 ∉ X) (h1 : 0 ∉ Y) : BM s' bl wd mm fn D := by
  obtain ⟨h3, h4, h5, h6, hz, hD⟩ := hB
  exact ⟨(h.1 2 h0.1).trans h3, (h.1 3 h0.2.1).trans h4, (h.1 4 h0.2.2.1).trans h5, (h.1 5 h0.2.2.2).trans h6, hz, fun b i hb hi => by rw [h.2 0 h1]; exact hD b i hb hi⟩
/-- the first of the least among the first n -/
def pick (el : Nat → Bool) (key : Nat → Int32) : Nat → Option Nat
  | 0 => none
  | n + 1 => match pick el key n with
    | none => if el n then some n else none
    | some j => if el n then (if key j ≤ key n then some j else some n) else some j
def oI : Option Nat → Int32
  | none => -1
  | some i => nI i
theorem pick_lt {el : Nat → Bool} {key : Nat → Int32} {n j : Nat} (h : pick el key n = some j) : j < n ∧ el j = true := by
  induction n generalizing j with
  | zero => cases h
  | succ n ih =>
    unfold pick at h
    cases hp : pick el key n with
    | none =>
      rw [hp] at h
      cases he : el n with
      | false => simp [he] at h
      | true => simp [he] at h; subst h; exact ⟨Nat.lt_succ_self _, he⟩
    | some q =>
      rw [hp] at h
      have := ih hp
      cases he : el n with
      | false => simp [he] at h; subst h; exact ⟨by omega, this.2⟩
      | true =>
        simp only [he, if_true] at h
        split at h
        · cases h; exact ⟨by omega, this.2⟩
        · cases h; exact ⟨by omega, he⟩
theorem pick_none {el : Nat → Bool} {key : Nat → Int32} {n : Nat} (h : pick el key n = none) : ∀ j, j < n → el j = false := by
  induction n with
  | zero => intro j hj; omega
  | succ n ih =>
    intro j hj
    unfold pick at h
    cases hp : pick el key n with
    | none =>
      rw [hp] at h
      cases he : el n with
      | false =>
        rcases Nat.lt_or_eq_of_le (Nat.le_of_lt_succ hj) with q | q
        · exact ih hp j q
        · subst q; exact he
      | true => simp [he] at h
    | some q =>
      rw [hp] at h
      cases he : el n with
      | false => simp [he] at h
      | true => simp only [he, if_true] at h; split at h <;> cases h
theorem pick_least {el : Nat → Bool} {key : Nat → Int32} {n j : Nat} (h : pick el key n = some j) : ∀ i, i < n → el i = true → key j ≤ key i := by
  induction n generalizing j with
  | zero => cases h
  | succ n ih =>
    intro i hi hei
    unfold pick at h
    cases hp : pick el key n with
    | none =>
      rw [hp] at h
      have hn := pick_none hp
      rcases Nat.lt_or_eq_of_le (Nat.le_of_lt_succ hi) with q | q
      · rw [hn i q] at hei; cases hei
      · subst q; simp [hei] at h; subst h; exact Int32.le_refl _
    | some q =>
      rw [hp] at h
      have := ih hp
      cases he : el n with
      | false =>
        simp [he] at h; subst h
        rcases Nat.lt_or_eq_of_le (Nat.le_of_lt_succ hi) with q2 | q2
        · exact this i q2 hei
        · subst q2; rw [he] at hei; cases hei
      | true =>
        simp only [he, if_true] at h
        split at h
        · rename_i hc
          cases h
          rcases Nat.lt_or_eq_of_le (Nat.le_of_lt_succ hi) with q2 | q2
          · exact this i q2 hei
          · subst q2; exact hc
        · rename_i hc
          cases h
          rcases Nat.lt_or_eq_of_le (Nat.le_of_lt_succ hi) with q2 | q2
          · exact Int32.le_trans (Int32.le_of_lt (Int32.not_le.mp hc)) (this i q2 hei)
          · subst q2; exact Int32.le_refl _
theorem pick_congr {el el' : Nat → Bool} {key key' : Nat → Int32} {n : Nat} (h : ∀ i, i < n → el i = el' i) (hk : ∀ i, i < n → el i = true → key i = key' i) : pick el key n = pick el' key' n := by
  induction n with
  | zero => rfl
  | succ n ih =>
    have := ih (fun i hi => h i (by omega)) (fun i hi => hk i (by omega))
    simp only [pick]
    rw [← this, ← h n (by omega)]
    cases hp : pick el key n with
    | none => simp only
    | some j =>
      have hj := pick_lt hp
      cases he : el n with
      | false => simp only [Bool.false_eq_true, if_false]
      | true => simp only [if_true]; rw [hk j (by omega) hj.2, hk n (by omega) he]
theorem oI_neg : oI none < 0 := by decide
theorem oI_pos {j : Nat} (h : j < 2 ^ 31) : ¬ oI (some j) < 0 := nI_pos h
