/-! The relation of the two states; what both sides do alike. -/
def NoD (s t : gS) : Prop := s.1 2 = 0 ∧ s.1 3 = 0 ∧ s.1 5 = t.1 6 ∧ t.1 1 = 0 ∧ t.1 8 = 0
def Dead (s t : gS) : Prop := ∃ (bl wd mm fn : Nat) (D : Nat → Nat → Int32) (wr : Int32), DC bl wd mm fn s D wr ∧ DM bl wd mm fn t D wr
def Live (s t : gS) : Prop := ∃ (bl wd mm fn : Nat) (ep : Int32) (syn : Nat → Bool) (D : Nat → Nat → Int32) (wr : Int32) (cut : Nat) (km : List Int32) (rs : List ARun), LC bl wd mm fn ep syn s D wr cut km rs ∧ LM bl wd mm fn ep syn t D wr cut km rs ∧ WF bl wd mm D cut km rs
def Rel (s t : gS) : Prop := NoD s t ∨ Dead s t ∨ Live s t
theorem DM_fr {bl wd mm fn : Nat} {t t' : gS} {D : Nat → Nat → Int32} {wr : Int32} (h : DM bl wd mm fn t D wr) (hF : Fr [0] [] t t') : DM bl wd mm fn t' D wr :=
  ⟨BM_fr h.1 hF (by decide) (by decide), (hF.1 _ (by decide)).trans h.2.1, (hF.1 _ (by decide)).trans h.2.2.1, (hF.1 _ (by decide)).trans h.2.2.2.1, (hF.1 _ (by decide)).trans h.2.2.2.2⟩
theorem Fr_th (t : gS) (v : Int32) : Fr [0] [] t (up t.1 0 v, t.2) := Fr_u (Fr_refl _ _ _) (by decide)
theorem rel_th {s t : gS} (h : Rel s t) (v : Int32) : Rel s (up t.1 0 v, t.2) := by
  have hF := Fr_th t v
  rcases h with ⟨h1, h2, h3, h4, h5⟩ | ⟨bl, wd, mm, fn, D, wr, h1, h2⟩ | ⟨bl, wd, mm, fn, ep, syn, D, wr, cut, km, rs, h1, h2, h3⟩
  · exact Or.inl ⟨h1, h2, h3.trans (hF.1 6 (by decide)).symm, (hF.1 1 (by decide)).trans h4, (hF.1 8 (by decide)).trans h5⟩
  · exact Or.inr (Or.inl ⟨bl, wd, mm, fn, D, wr, h1, DM_fr h2 hF⟩)
  · exact Or.inr (Or.inr ⟨bl, wd, mm, fn, ep, syn, D, wr, cut, km, rs, h1, LM_fr h2 (Fr_mono hF (by decide) (by decide)), h3⟩)
theorem rel_cases {s t : gS} (h : Rel s t) : (s.1 2 = 0 ∧ t.1 8 = 0) ∨ Live s t := by
  rcases h with ⟨h1, h2, h3, h4, h5⟩ | ⟨bl, wd, mm, fn, D, wr, h1, h2⟩ | h
  · exact Or.inl ⟨h1, h5⟩
  · exact Or.inl ⟨h1.2.1, h2.2.2.1⟩
  · exact Or.inr h
theorem cmp_self (x : Int64) : lg_cmp x x = 0 := by
  unfold lg_cmp
  rw [if_neg (show ¬ x > x from Int64.lt_irrefl), if_pos rfl]
theorem k_ok {f : Nat → Int64} {r b : Int32} {s1 t1 : gS} {R : gS → gS → Prop} (h0 : t1.1 0 = 0) (e : r = b) (h : R s1 t1) : wp_M_SpillQueueModel_thrown t1 (fun th t2 => th = 0 ∧ ((¬ (0 : Int32) = 0 → R s1 t2) ∧ ((0 : Int32) = 0 → lg_cmp ((vp_updL f (0 : Int32).toNatClampNeg r.toInt64) (0 : Int32).toNatClampNeg) b.toInt64 = 0 ∧ R s1 t2))) :=
  ⟨h0, fun q => absurd rfl q, fun _ => ⟨by rw [pk_uLs, e]; exact cmp_self _, h⟩⟩
theorem k_th {k : Int32} {f : Nat → Int64} {b : Int32} {s1 t1 : gS} {R : gS → gS → Prop} (hk : ¬ k = 0) (h0 : t1.1 0 = k) (h : R s1 t1) : wp_M_SpillQueueModel_thrown t1 (fun th t2 => th = k ∧ ((¬ k = 0 → R s1 t2) ∧ (k = 0 → lg_cmp (f (0 : Int32).toNatClampNeg) b.toInt64 = 0 ∧ R s1 t2))) :=
  ⟨h0, fun _ => h, fun q => absurd q hk⟩
theorem th_s (t : gS) (v : Int32) : ((up t.1 0 v, t.2) : gS).1 0 = v := up_s t.1 0 v
theorem m_within {a lo hi : Int32} {t : gS} {Q : Int32 → gS → Prop} (h : Q (bI (decide (¬ a < lo ∧ ¬ hi < a))) t) : wp_M_SpillQueueModel_within a lo hi t Q := by
  unfold wp_M_SpillQueueModel_within
  by_cases c1 : a < lo
  · rw [decide_eq_false (fun q => q.1 c1)] at h; exact br_t c1 h
  · by_cases c2 : hi < a
    · rw [decide_eq_false (fun q => q.2 c2)] at h; exact br_f c1 (br_t c2 h)
    · rw [decide_eq_true ⟨c1, c2⟩] at h; exact br_f c1 (br_f c2 h)
theorem ex_nI {a : Int32} {k : Nat} (hk : k < 2 ^ 30) (h0 : ¬ a < 0) (h1 : a ≤ nI k) : ∃ j, j ≤ k ∧ a = nI j := by
  have h2 : ¬ nI (k + 1) ≤ a := by
    intro q
    have := Int32.le_trans q h1
    rw [le_nI (by omega) (by omega)] at this
    omega
  obtain ⟨j, hj, e, -⟩ := pk_mu h0 h2 (by omega)
  exact ⟨j, by omega, e⟩
theorem ex_rng {a : Int32} {lo hi : Nat} (hh : hi < 2 ^ 30) (hlo : lo < 2 ^ 30) (h1 : ¬ a < nI lo) (h2 : ¬ nI hi < a) : ∃ j, lo ≤ j ∧ j ≤ hi ∧ a = nI j := by
  have h0 : ¬ a < 0 := fun q => h1 (Int32.lt_of_lt_of_le q (nI_pos' (by omega)))
  obtain ⟨j, hj, e⟩ := ex_nI hh h0 (Int32.not_lt.mp h2)
  refine ⟨j, ?_, hj, e⟩
  rw [e, lt_nI (by omega) (by omega)] at h1
  omega
/-! class: a key comes to memory -/
theorem c_memadd1 {bl wd mm fn : Nat} {ep : Int32} {syn : Nat → Bool} {s : gS} {D : Nat → Nat → Int32} {wr : Int32} {cut : Nat} {km : List Int32} {rs : List ARun} (hL : LC bl wd mm fn ep syn s D wr cut km rs) (hl : km.length < 100) (hf : Fall km) {k : Int32} {Q : gS → Prop} (h : ∀ s', LC bl wd mm fn ep syn s' D wr cut (insF k km) rs → Q s') : wp_Memory_add k s Q := by
  obtain ⟨hB, h2, h1, h5, h6, h7, hM, hR, hsy⟩ := hL
  refine c_memadd h7 hl hM hf (fun f hh => ?_)
  have hF : Fr [7] [2] s (up s.1 7 (nI (km.length + 1)), ua s.2 2 f) := Fr_a (s' := (up s.1 7 _, s.2)) (Fr_u (Fr_refl _ _ _) (by decide)) (by decide)
  refine h _ ⟨BC_fr hB hF (by decide) (by decide), (hF.1 _ (by decide)).trans h2, (hF.1 _ (by decide)).trans h1, (hF.1 _ (by decide)).trans h5, (hF.1 _ (by decide)).trans h6, ?_, ?_, RC_fr hR hF (by decide) (by decide), ?_⟩
  · rw [insF_len]; exact up_s s.1 7 _
  · rw [p2s]; exact hh
  · rw [hF.2 10 (by decide)]; exact hsy
theorem lm_add {bl wd mm fn : Nat} {ep : Int32} {syn : Nat → Bool} {t : gS} {D : Nat → Nat → Int32} {wr : Int32} {cut : Nat} {km : List Int32} {rs : List ARun} (hL : LM bl wd mm fn ep syn t D wr cut km rs) (hl : km.length < 100) (k : Int32) : vp_in (t.1 10) 100 ∧ LM bl wd mm fn ep syn (up t.1 10 (t.1 10 + 1), ua t.2 1 (upd (t.2 1) (t.1 10).toNatClampNeg k)) D wr cut (insF k km) rs := by
  obtain ⟨hB, h1, h8, h9, h11, h6, h7, ⟨kt, hp, hk1, hk2⟩, hR, hsy⟩ := hL
  have hle := hp.length_eq
  rw [hk1, cl_nI (by omega), nI_1]
  refine ⟨vp_in_nI (by omega) (by omega), ?_⟩
  have hF : Fr [10] [1] t (up t.1 10 (nI (kt.length + 1)), ua t.2 1 (upd (t.2 1) kt.length k)) := Fr_a (s' := (up t.1 10 _, t.2)) (Fr_u (Fr_refl _ _ _) (by decide)) (by decide)
  refine ⟨BM_fr hB hF (by decide) (by decide), (hF.1 _ (by decide)).trans h1, (hF.1 _ (by decide)).trans h8, (hF.1 _ (by decide)).trans h9, (hF.1 _ (by decide)).trans h11, (hF.1 _ (by decide)).trans h6, (hF.1 _ (by decide)).trans h7, ⟨kt ++ [k], ?_, ?_, ?_⟩, RM_fr hR hF (by decide) (by decide), ?_⟩
  · exact ((List.perm_append_comm (l₁ := kt) (l₂ := [k])).trans (List.Perm.cons k hp)).trans (insF_perm k km).symm
  · rw [List.length_append, List.length_singleton]; exact up_s t.1 10 _
  · intro i hi
    rw [List.length_append, List.length_singleton] at hi
    rw [p2s]
    by_cases c : i = kt.length
    · rw [c, upd_s]; simp [List.getD]
    · rw [upd_n c, hk2 i (by omega)]
      simp [List.getD, List.getElem?_append_left (show i < kt.length by omega)]
  · rw [hF.2 6 (by decide)]; exact hsy
theorem wf_add {bl wd mm : Nat} {D : Nat → Nat → Int32} {cut : Nat} {km : List Int32} {rs : List ARun} (hW : WF bl wd mm D cut km rs) {k : Int32} (hk : 0 ≤ k) (hl : km.length < mm) : WF bl wd mm D cut (insF k km) rs := by
  obtain ⟨w1, w2, w3, w4, w5, w6, w7⟩ := hW
  refine ⟨w1, insF_fall w2, by rw [insF_len]; omega, fun x hx => ?_, w5, w6, w7⟩
  rcases List.mem_cons.mp ((insF_perm k km).mem_iff.mp hx) with q | q
  · rw [q]; exact hk
  · exact w4 x q
theorem aLoop_code {bl wd fn : Nat} {syn : Nat → Bool} : ∀ (f : Nat) (D : Nat → Nat → Int32) (wr : Int32) (cut : Nat) (km : List Int32) (rs : List ARun), (aLoop bl wd fn syn f D wr cut km rs).1 = -9 ∨ ((aLoop bl wd fn syn f D wr cut km rs).1 = 0 ∧ (aLoop bl wd fn syn f D wr cut km rs).2.2.2.2.1 = km) := by
  intro f
  induction f with
  | zero => intro D wr cut km rs; exact Or.inr ⟨rfl, rfl⟩
  | succ f ih =>
    intro D wr cut km rs
    unfold aLoop
    cases hc : crow fn (getF rs) rs.length with
    | none => exact Or.inr ⟨rfl, rfl⟩
    | some i =>
      simp only
      split
      · rename_i c
        have hkm : (aMerge bl wd syn D wr cut km rs (pL (getF rs i).2.2.2) ((getF rs i).2.2.2 + 1)).2.2.2.2.1 = km := by
          rcases aMake_code bl wd syn D wr cut km rs (mKey wd D (chF (pL (getF rs i).2.2.2) rs) rs.length (getF rs)) (sumC (chF (pL (getF rs i).2.2.2) rs) (getF rs) rs.length) km (rs.filter (fun r => !(pL (getF rs i).2.2.2) r)) ((getF rs i).2.2.2 + 1) with e | e | ⟨-, hn, e⟩
          · unfold aMerge; rw [e]
          · unfold aMerge at c; rw [e] at c; cases c
          · unfold aMerge; rw [e]
        rcases ih (aMerge bl wd syn D wr cut km rs (pL (getF rs i).2.2.2) ((getF rs i).2.2.2 + 1)).2.1 (aMerge bl wd syn D wr cut km rs (pL (getF rs i).2.2.2) ((getF rs i).2.2.2 + 1)).2.2.1 (aMerge bl wd syn D wr cut km rs (pL (getF rs i).2.2.2) ((getF rs i).2.2.2 + 1)).2.2.2.1 (aMerge bl wd syn D wr cut km rs (pL (getF rs i).2.2.2) ((getF rs i).2.2.2 + 1)).2.2.2.2.1 (aMerge bl wd syn D wr cut km rs (pL (getF rs i).2.2.2) ((getF rs i).2.2.2 + 1)).2.2.2.2.2 with q | ⟨q1, q2⟩
        · exact Or.inl q
        · exact Or.inr ⟨q1, q2.trans hkm⟩
      · rename_i c
        split
        · exact Or.inr ⟨rfl, rfl⟩
        · rename_i c2
          rcases aMerge_code bl wd syn D wr cut km rs (pL (getF rs i).2.2.2) ((getF rs i).2.2.2 + 1) with e | e | e
          · rw [e] at c2; exact absurd rfl c2
          · exact Or.inl e
          · exact absurd e c
theorem aSpill2_code (bl wd fn : Nat) (syn : Nat → Bool) (D : Nat → Nat → Int32) (wr : Int32) (cut : Nat) (km : List Int32) (rs : List ARun) : (aSpill2 bl wd fn syn D wr cut km rs).1 = -2 ∨ (aSpill2 bl wd fn syn D wr cut km rs).1 = -9 ∨ ((aSpill2 bl wd fn syn D wr cut km rs).1 = 0 ∧ (aSpill2 bl wd fn syn D wr cut km rs).2.2.2.2.1 = []) := by
  unfold aSpill2 thenR
  rcases aMake_code bl wd syn D wr cut km rs (keyMem km) km.length [] rs 0 with e | e | ⟨e0, hn, e⟩
  · rw [show aMem bl wd syn D wr cut km rs = _ from e, if_neg (show ¬ ((-2 : Int32), D, wr, cut, km, rs).1 = 0 from n20)]; exact Or.inl rfl
  · rw [if_neg (by rw [show (aMem bl wd syn D wr cut km rs).1 = -9 from e]; exact n90)]; exact Or.inr (Or.inl e)
  · rw [if_pos (show (aMem bl wd syn D wr cut km rs).1 = 0 from e0)]
    have hk : (aMem bl wd syn D wr cut km rs).2.2.2.2.1 = [] := by unfold aMem; rw [e]
    rcases aLoop_code (bl := bl) (wd := wd) (fn := fn) (syn := syn) 9 (aMem bl wd syn D wr cut km rs).2.1 (aMem bl wd syn D wr cut km rs).2.2.1 (aMem bl wd syn D wr cut km rs).2.2.2.1 (aMem bl wd syn D wr cut km rs).2.2.2.2.1 (aMem bl wd syn D wr cut km rs).2.2.2.2.2 with q | ⟨q1, q2⟩
    · exact Or.inr (Or.inl q)
    · exact Or.inr (Or.inr ⟨q1, q2.trans hk⟩)
theorem aSpill_code (bl wd fn : Nat) (syn : Nat → Bool) (D : Nat → Nat → Int32) (wr : Int32) (cut : Nat) (km : List Int32) (rs : List ARun) : (aSpill bl wd fn syn D wr cut km rs).1 = -2 ∨ (aSpill bl wd fn syn D wr cut km rs).1 = -9 ∨ ((aSpill bl wd fn syn D wr cut km rs).1 = 0 ∧ (aSpill bl wd fn syn D wr cut km rs).2.2.2.2.1 = []) := by
  unfold aSpill
  split
  · exact aSpill2_code _ _ _ _ _ _ _ _ _
  · unfold thenR
    split
    · exact aSpill2_code _ _ _ _ _ _ _ _ _
    · rename_i c
      rcases aMerge_code bl wd syn D wr cut km rs (fun _ => true) (topL (getF rs) rs.length + 1) with e | e | e
      · exact Or.inl (by unfold aAll; rw [e])
      · exact Or.inr (Or.inl e)
      · exact absurd e c
theorem wf_spill2 {bl wd mm fn : Nat} {syn : Nat → Bool} {D : Nat → Nat → Int32} {wr : Int32} {cut : Nat} {km : List Int32} {rs : List ARun} (hw : 11 ≤ wd ∧ wd ≤ 40) (hbl : bl ≤ 200) (hfn : 2 ≤ fn) (hW : WF bl wd mm D cut km rs) (hk : 1 ≤ km.length) (hl : rs.length < (wd - 3) / 4) : WFR bl wd mm (aSpill2 bl wd fn syn D wr cut km rs) := by
  have hm := wf_mem (syn := syn) (wr := wr) hw hbl hW hk hl
  unfold aSpill2 thenR
  split
  · rename_i c
    exact wf_loop hw hbl hfn 9 _ _ _ _ _ (hm (by rw [c]; exact n09))
  · exact hm
theorem wf_spill {bl wd mm fn : Nat} {syn : Nat → Bool} {D : Nat → Nat → Int32} {wr : Int32} {cut : Nat} {km : List Int32} {rs : List ARun} (hw : 11 ≤ wd ∧ wd ≤ 40) (hbl : bl ≤ 200) (hfn : 2 ≤ fn) (hW : WF bl wd mm D cut km rs) (hk : 1 ≤ km.length) : WFR bl wd mm (aSpill bl wd fn syn D wr cut km rs) := by
  have w5 := hW.2.2.2.2.1
  unfold aSpill
  split
  · rename_i c; exact wf_spill2 hw hbl hfn hW hk c
  · rename_i c
    obtain ⟨r0, hr0, hr0l⟩ := hW.2.2.2.2.2.2 (by omega)
    have hf0 : (rs.filter (fun r => !(fun _ => true) r)) = [] := by simp
    have hm := wf_merge (syn := syn) (wr := wr) (p := fun _ => true) (lv := topL (getF rs) rs.length + 1) hw hbl hW ⟨r0, hr0, rfl⟩ (by rw [hf0]; simp; omega)
    unfold thenR
    split
    · rename_i e
      have hne : (aAll bl wd syn D wr cut km rs).1 ≠ -9 := by rw [e]; exact n09
      have hkm : (aAll bl wd syn D wr cut km rs).2.2.2.2.1 = km := by
        rcases aMake_code bl wd syn D wr cut km rs (mKey wd D (chF (fun _ => true) rs) rs.length (getF rs)) (sumC (chF (fun _ => true) rs) (getF rs) rs.length) km (rs.filter (fun r => !(fun _ => true) r)) (topL (getF rs) rs.length + 1) with e1 | e1 | ⟨-, hn, e1⟩
        · unfold aAll aMerge; rw [e1]
        · unfold aAll aMerge at e; rw [e1] at e; cases e
        · unfold aAll aMerge; rw [e1]
      have hlen : (aAll bl wd syn D wr cut km rs).2.2.2.2.2.length = 1 := (aMerge_len e).trans (by simp)
      exact wf_spill2 hw hbl hfn (hm hne) (by rw [hkm]; exact hk) (by rw [hlen]; omega)
    · exact hm
/-! the reference after a call that may have lost power -/
theorem m_after0 {t : gS} (h9 : t.1 9 = 0) {a : Int32} {Q : Int32 → gS → Prop} (h : Q a t) : wp_M_SpillQueueModel_after a t Q := br_nf h9 h
theorem m_afterO {bl wd mm fn : Nat} {t : gS} {D : Nat → Nat → Int32} {wr : Int32} (hO : OM bl wd mm fn t D wr) {a : Int32} {Q : Int32 → gS → Prop} (h : ∀ t', t'.1 0 = t.1 0 → DM bl wd mm fn t' D wr → Q (-9) t') : wp_M_SpillQueueModel_after a t Q := by
  unfold wp_M_SpillQueueModel_after
  refine br_nt (by rw [hO.2.2.1]; decide) ?_
  unfold wp_M_SpillQueueModel_die
  have hF : Fr [8, 9, 10, 12] [] t (up (up (up (up t.1 9 0) 8 0) 10 0) 12 0, t.2) := Fr_u (s' := (up (up (up t.1 9 0) 8 0) 10 0, t.2)) (Fr_u (s' := (up (up t.1 9 0) 8 0, t.2)) (Fr_u (s' := (up t.1 9 0, t.2)) (Fr_u (Fr_refl _ _ _) (by decide)) (by decide)) (by decide)) (by decide)
  refine h _ (hF.1 0 (by decide)) ⟨BM_fr hO.1 hF (by decide) (by decide), (hF.1 1 (by decide)).trans hO.2.1, ?_, ?_, (hF.1 6 (by decide)).trans hO.2.2.2⟩
  · show up (up (up (up t.1 9 0) 8 0) 10 0) 12 0 8 = 0
    rw [up_n rfl, up_n rfl, up_s]
  · show up (up (up (up t.1 9 0) 8 0) 10 0) 12 0 9 = 0
    rw [up_n rfl, up_n rfl, up_n rfl, up_s]
theorem L_insert {a1 a2 a3 a4 : Int32} {s : gS} {f : Nat → Int64} {t : gS} (h : Rel s t) : lawStep_insert a1 a2 a3 a4 s f t (fun s1 _ t1 => Rel s1 t1) := by
  unfold lawStep_insert wp_L_insert wp_SpillQueue_insert wp_SpillQueue_requireLive
  rcases rel_cases h with ⟨d1, d2⟩ | ⟨bl, wd, mm, fn, ep, syn, D, wr, cut, km, rs, hC, hM, hW⟩
  · refine br_nf d1 (Or.inl ⟨rfl, ?_⟩)
    exact br_nf d2 (k_th (by decide) (th_s t 1) (rel_th h 1))
  · have hz := hC.1.2.2.2.2.1
    have h8 := hM.2.2.1
    have w3 := hW.2.2.1
    refine br_nt (by rw [hC.2.1]; decide) ?_
    by_cases ca : 0 ≤ a1
    · refine br_t ca ?_
      refine c_memfull (mm := mm) hC.2.2.2.2.2.1 hC.1.2.2.1 (by omega) (by omega) ?_
      have hMt := LM_fr hM (Fr_mono (Fr_th t 0) (by decide) (by decide))
      by_cases cf : mm ≤ km.length
      · rw [decide_eq_true cf]
        have hk : 1 ≤ km.length := by omega
        refine br_f (by decide) ?_
        refine c_spill hC hW hk (fun s1 hR1 => ?_)
        have hwf := wf_spill (fn := fn) (syn := syn) (wr := wr) (bl := bl) ⟨by omega, by omega⟩ (by omega) (by omega) hW hk
        -- the reference's side, once
        have ref : ∀ (Q1 : Int32 → gS → Prop), (∀ b t', ResM bl wd mm fn ep syn 0 (aSpill bl wd fn syn D wr cut km rs) b t' → ((¬ b = 0 → ((¬ (t'.1 9) = 0 → wp_M_SpillQueueModel_after 0 t' (fun r16 s15 => Q1 r16 s15)) ∧ ((t'.1 9) = 0 → vp_in (t'.1 10) 100 ∧ (∀ v18 : Int32, v18 = (t'.1 10) + 1 → wp_M_SpillQueueModel_after 0 (up t'.1 10 (v18), ua t'.2 1 (upd (t'.2 1) (t'.1 10).toNatClampNeg a1)) (fun r20 s19 => Q1 r20 s19))))) ∧ (b = 0 → wp_M_SpillQueueModel_after (-2) t' (fun r22 s21 => Q1 r22 s21)))) → wp_M_SpillQueueModel_insert a1 t Q1 := by
          intro Q1 hQ1
          unfold wp_M_SpillQueueModel_insert
          refine br_nt (by rw [h8]; decide) (br_t ca (br_nf ?_ ?_))
          · rw [MM_len hM.2.2.2.2.2.2.2.1, hM.1.2.2.1]; congr 1; omega
          · exact m_spill hMt hW hk (fun b t1 hb => hQ1 b t1 (by rw [th_s] at hb; exact hb))
        rcases aSpill_code bl wd fn syn D wr cut km rs with e | e | ⟨e, ek⟩
        · refine br_f (by rw [e]; exact n20) (ref _ (fun b t1 hb => ?_))
          obtain ⟨r0, r1, r2, r3, r4⟩ := hb
          have hne : (aSpill bl wd fn syn D wr cut km rs).1 ≠ -9 := by rw [e]; exact n29
          refine br_nf (r1 e) (m_after0 (r4 hne).2.2.2.1 (k_ok r0 e ?_))
          exact Or.inr (Or.inr ⟨bl, wd, mm, fn, ep, syn, _, _, _, _, _, hR1.2 hne, r4 hne, hwf hne⟩)
        · refine br_f (by rw [e]; exact n90) (ref _ (fun b t1 hb => ?_))
          obtain ⟨r0, r1, r2, r3, r4⟩ := hb
          have hO := r3 e
          have hb := r2 (by rw [e]; exact n92)
          subst hb
          refine br_nt (by decide) (br_nt (by rw [hO.2.2.1]; decide) (m_afterO hO (fun t2 e0 hD => k_ok (e0.trans r0) e ?_)))
          exact Or.inr (Or.inl ⟨bl, wd, mm, fn, _, _, hR1.1 e, hD⟩)
        · have hne : (aSpill bl wd fn syn D wr cut km rs).1 ≠ -9 := by rw [e]; exact n09
          have hC1 := hR1.2 hne
          have hW1 := hwf hne
          rw [ek] at hC1 hW1
          refine br_t e ?_
          refine c_memadd1 hC1 (by simp) hW1.2.1 (fun s2 hC2 => ref _ (fun b t1 hb => ?_))
          obtain ⟨r0, r1, r2, r3, r4⟩ := hb
          have hL1 := r4 hne
          have hb := r2 (by rw [e]; exact n02)
          subst hb
          rw [ek] at hL1
          obtain ⟨hv, hL2⟩ := lm_add hL1 (by simp) a1
          refine br_nt (by decide) (br_nf hL1.2.2.2.1 ⟨hv, ?_⟩)
          (intro v hv; subst hv)
          refine m_after0 hL2.2.2.2.1 (k_ok ?_ rfl (Or.inr (Or.inr ⟨bl, wd, mm, fn, ep, syn, _, _, _, _, _, hC2, hL2, wf_add hW1 ca (by simp; omega)⟩)))
          show up t1.1 10 (t1.1 10 + 1) 0 = 0
          rw [up_n rfl]; exact r0
      · rw [decide_eq_false cf]
        refine br_t rfl ?_
        refine c_memadd1 hC (by omega) hW.2.1 (fun s1 hC1 => ?_)
        unfold wp_M_SpillQueueModel_insert
        obtain ⟨hv, hL2⟩ := lm_add hMt (by omega) a1
        have e10 : ((up t.1 0 0, t.2) : gS).1 10 = t.1 10 := (Fr_th t 0).1 10 (by decide)
        refine br_nt (by rw [h8]; decide) (br_t ca (br_nt ?_ (br_nf hM.2.2.2.1 ?_)))
        · rw [MM_len hM.2.2.2.2.2.2.2.1, hM.1.2.2.1]; (first | omega | ((simp (disch := omega) only [li0, li1, li2, li3, li4, li5, li9, li11, li40, li100, li200, li8000, li10000, lt_nI, le_nI, eq_nI]); done) | ((simp (disch := omega) only [li0, li1, li2, li3, li4, li5, li9, li11, li40, li100, li200, li8000, li10000, lt_nI, le_nI, eq_nI]); omega))
        · rw [e10] at hv hL2
          refine ⟨hv, ?_⟩
          (intro v hv; subst hv)
          refine m_after0 hL2.2.2.2.1 (k_ok ?_ rfl (Or.inr (Or.inr ⟨bl, wd, mm, fn, ep, syn, _, _, _, _, _, hC1, hL2, wf_add hW ca (by omega)⟩)))
          show up (up t.1 0 0) 10 (t.1 10 + 1) 0 = 0
          rw [up_n rfl, up_s]
    · refine br_f ca (Or.inr ⟨rfl, ?_⟩)
      exact br_nt (by rw [h8]; decide) (br_f ca (k_th (by decide) (th_s t 2) (rel_th h 2)))
