/-! The pure part. Stores, numbers, what the two states mean. -/
theorem up_s (f : Nat → Int32) (k : Nat) (v : Int32) : up f k v k = v := by simp [up]
theorem up_n {f : Nat → Int32} {k j : Nat} {v : Int32} (h : Nat.beq j k = false) : up f k v j = f j := by unfold up; rw [h]; rfl
theorem up_up (f : Nat → Int32) (k : Nat) (v w : Int32) : up (up f k v) k w = up f k w := by
  funext j; unfold up; cases Nat.beq j k <;> rfl
theorem ua_s (f : Nat → Nat → Int32) (k : Nat) (g : Nat → Int32) : ua f k g k = g := by simp [ua]
theorem ua_n {f : Nat → Nat → Int32} {k j : Nat} {g : Nat → Int32} (h : Nat.beq j k = false) : ua f k g j = f j := by unfold ua; rw [h]; rfl
theorem ua_ua (f : Nat → Nat → Int32) (k : Nat) (g h : Nat → Int32) : ua (ua f k g) k h = ua f k h := by
  funext j; unfold ua; cases Nat.beq j k <;> rfl
theorem ua_id (f : Nat → Nat → Int32) (k : Nat) : ua f k (f k) = f := by
  funext j
  by_cases h : j = k
  · subst h; exact ua_s f j (f j)
  · exact ua_n (by cases hb : Nat.beq j k with | false => rfl | true => exact absurd (Nat.eq_of_beq_eq_true hb) h)
theorem upd_s (f : Nat → Int32) (k : Nat) (v : Int32) : upd f k v k = v := pk_us
theorem upd_n {f : Nat → Int32} {k j : Nat} {v : Int32} (h : j ≠ k) : upd f k v j = f j := pk_un h
theorem gS_eta (s : gS) : (s.1, s.2) = s := rfl
theorem nb0 : vp_nar .boolean 0 = 0 := by decide +kernel
theorem nb1 : vp_nar .boolean 1 = 1 := by decide +kernel
/-! conditions by the naturals behind -/
theorem cl_nI {n : Nat} (h : n < 2 ^ 31) : (nI n).toNatClampNeg = n := nI_clamp h
theorem nI_n0 {n : Nat} (h : n < 2 ^ 31) : ¬ nI n < 0 := nI_pos h
theorem lt_nI {a b : Nat} (ha : a < 2 ^ 31) (hb : b < 2 ^ 31) : (nI a < nI b) = (a < b) := propext (nI_ltI ha hb)
theorem le_nI {a b : Nat} (ha : a < 2 ^ 31) (hb : b < 2 ^ 31) : (nI a ≤ nI b) = (a ≤ b) := propext (nI_leI ha hb)
theorem eq_nI {a b : Nat} (ha : a < 2 ^ 31) (hb : b < 2 ^ 31) : (nI a = nI b) = (a = b) := propext (nI_eq ha hb)
theorem br_i {c A B : Prop} {d : Prop} (e : c ↔ d) (f : d → A) (g : ¬ d → B) : (c → A) ∧ (¬ c → B) := ⟨fun h => f (e.mp h), fun h => g (fun q => h (e.mpr q))⟩
theorem br_n {c A B : Prop} (f : ¬ c → A) (g : c → B) : (¬ c → A) ∧ (c → B) := ⟨f, g⟩
theorem i_lt {a b : Nat} (ha : a < 2 ^ 31) (hb : b < 2 ^ 31) : nI a < nI b ↔ a < b := nI_ltI ha hb
theorem i_le {a b : Nat} (ha : a < 2 ^ 31) (hb : b < 2 ^ 31) : nI a ≤ nI b ↔ a ≤ b := nI_leI ha hb
theorem i_eq {a b : Nat} (ha : a < 2 ^ 31) (hb : b < 2 ^ 31) : nI a = nI b ↔ a = b := nI_eq ha hb
/-- the class's sizes and disk -/
def BC (s : gS) (bl wd mm fn : Nat) (D : Nat → Nat → Int32) : Prop := s.1 3 = nI bl ∧ s.1 4 = nI wd ∧ s.1 8 = nI mm ∧ s.1 0 = nI fn ∧ (4 ≤ bl ∧ bl ≤ 200 ∧ 11 ≤ wd ∧ wd ≤ 40 ∧ 1 ≤ mm ∧ mm ≤ 100 ∧ 2 ≤ fn ∧ fn ≤ 5) ∧ ∀ b i, b < bl → i < wd → s.2 0 (b * wd + i) = D b i
/-- the reference's -/
def BM (t : gS) (bl wd mm fn : Nat) (D : Nat → Nat → Int32) : Prop := t.1 2 = nI bl ∧ t.1 3 = nI wd ∧ t.1 4 = nI mm ∧ t.1 5 = nI fn ∧ (4 ≤ bl ∧ bl ≤ 200 ∧ 11 ≤ wd ∧ wd ≤ 40 ∧ 1 ≤ mm ∧ mm ≤ 100 ∧ 2 ≤ fn ∧ fn ≤ 5) ∧ ∀ b i, b < bl → i < wd → t.2 0 (40 * b + i) = D b i
/-- a run: its blocks, where it begins, how many keys, its level -/
abbrev ARun := List Nat × Nat × Nat × Int32
def Chained (D : Nat → Nat → Int32) : List Nat → Prop
  | [] => True
  | [x] => D x 1 = 0
  | x :: y :: t => D x 1 = nI y ∧ Chained D (y :: t)
def RunOK (bl wd : Nat) (D : Nat → Nat → Int32) (r : ARun) : Prop := r.1.length = (r.2.1 + r.2.2.1 + (wd - 3)) / (wd - 2) ∧ r.1.length ≤ 200 ∧ 1 ≤ r.2.2.1 ∧ r.2.1 < wd - 2 ∧ (∀ x ∈ r.1, 2 ≤ x ∧ x < bl) ∧ Chained D r.1
def Hold (f : Nat → Int32) (l : List Int32) : Prop := ∀ i, i < l.length → f i = l.getD i 0
def aF (r : ARun) : Int32 := nI (r.1.headD 0)
def aB (r : ARun) : Int32 := nI r.2.1
def aC (r : ARun) : Int32 := nI r.2.2.1
def aH (D : Nat → Nat → Int32) (r : ARun) : Int32 := D (r.1.headD 0) (2 + r.2.1)
def bI (b : Bool) : Int32 := if b then 1 else 0
/-! the class's small methods on the disk -/
theorem mulwd {b bl i wd : Nat} (hb : b < bl) (hi : i < wd) (hbl : bl ≤ 200) (hwd : wd ≤ 40) : b * wd + i < 8000 := by
  have h1 : b * wd ≤ 199 * wd := Nat.mul_le_mul_right wd (by omega)
  omega
theorem c_get {s : gS} {bl wd mm fn : Nat} {D : Nat → Nat → Int32} (hB : BC s bl wd mm fn D) {b i : Nat} (hb : b < bl) (hi : i < wd) {Q : Int32 → gS → Prop} (h : Q (D b i) s) : wp_Disk_get (nI b) (nI i) s Q := by
  obtain ⟨h3, h4, -, -, ⟨z1, z2, z3, z4, -⟩, hD⟩ := hB
  have h8 := mulwd hb hi z2 z4
  unfold wp_Disk_get
  rw [h3, h4]
  refine br_f (nI_pos (by omega)) (br_f (by rw [le_nI (by omega) (by omega)]; omega) (br_f (nI_pos (by omega)) (br_t (by rw [lt_nI (by omega) (by omega)]; omega) ?_)))
  rw [pk_mul, nI_add, cl_nI (by omega), hD b i hb hi]
  exact ⟨vp_in_nI h8 (by omega), h⟩
theorem c_per {s : gS} {bl wd mm fn : Nat} {D : Nat → Nat → Int32} (hB : BC s bl wd mm fn D) {Q : Int32 → gS → Prop} (h : Q (nI (wd - 2)) s) : wp_Disk_keysPerBlock s Q := by
  obtain ⟨h3, h4, -, -, ⟨z1, z2, z3, z4, -⟩, hD⟩ := hB
  unfold wp_Disk_keysPerBlock
  rw [h4]
  have e : nI wd - 2 = nI (wd - 2) := pk_sub (a := wd) (b := 2) (by omega)
  rw [e]
  exact h
theorem c_most {s : gS} {bl wd mm fn : Nat} {D : Nat → Nat → Int32} (hB : BC s bl wd mm fn D) {Q : Int32 → gS → Prop} (h : Q (nI ((wd - 3) / 4)) s) : wp_Disk_mostRuns s Q := by
  obtain ⟨h3, h4, -, -, ⟨z1, z2, z3, z4, -⟩, hD⟩ := hB
  unfold wp_Disk_mostRuns
  rw [h4]
  have e : (nI wd - 3) / 4 = nI ((wd - 3) / 4) := by
    rw [show nI wd - 3 = nI (wd - 3) from pk_sub (a := wd) (b := 3) (by omega)]
    exact pk_div (d := 4) (by omega) (by omega) (by omega)
  rw [e]
  exact h
theorem c_blocksFor {s : gS} {bl wd mm fn : Nat} {D : Nat → Nat → Int32} (hB : BC s bl wd mm fn D) {n : Nat} (hn : n < 2 ^ 30) {Q : Int32 → gS → Prop} (h : Q (nI ((n + (wd - 3)) / (wd - 2))) s) : wp_Disk_blocksFor (nI n) s Q := by
  unfold wp_Disk_blocksFor
  refine c_per hB ?_
  obtain ⟨h3, h4, -, -, ⟨z1, z2, z3, z4, -⟩, hD⟩ := hB
  refine br_f (by rw [show (0 : Int32) = nI 0 from rfl, le_nI (by omega) (by omega)]; omega) ?_
  refine ⟨by rw [show (0 : Int32) = nI 0 from rfl, eq_nI (by omega) (by omega)]; omega, ?_⟩
  have e : (nI n + nI (wd - 2) - 1) / nI (wd - 2) = nI ((n + (wd - 3)) / (wd - 2)) := by
    rw [nI_add, show nI (n + (wd - 2)) - 1 = nI (n + (wd - 2) - 1) from pk_sub (a := n + (wd - 2)) (b := 1) (by omega), pk_div (by omega) (by omega) (by omega)]
    congr 2; omega
  rw [e]
  exact h
