/-! the reference reads the text: persons, stops -/
def mD (D : vD) (M : am_M) : Prop := M 164 7 = vnp D.1 ∧ M 164 9 = vnl D.1 ∧ (∀ l, 0 ≤ l → l < vnl D.1 → M 169 (6 + l) = vsz D.1 l ∧ M 170 (6 + l) = vfr D.1 l) ∧ (∀ l k, 0 ≤ l → l < vnl D.1 → 0 ≤ k → k < vsz D.1 l → M 168 (6 * (6 + l) + k) = vst D.1 l k) ∧ ∀ p q, 0 ≤ p → p < vnp D.1 → 0 ≤ q → q < vnp D.1 → M 167 (64 + 8 * p + q) = D.2 p q
def mO (T : Int → Int) (L : Int) (r : vO (Int × vD)) (M : am_M) : Prop := match r with
  | Sum.inl f => mV T L f.1 f.2 M
  | Sum.inr z => (∃ a, mg T L a M ∧ tb T L a = z.1) ∧ mD z.2 M
/-- what reading changes -/
def gw (M M1 : am_M) : Prop := (∀ k, k ≠ 164 → k ≠ 167 → k ≠ 168 → k ≠ 169 → k ≠ 170 → ∀ j, M1 k j = M k j) ∧ (∀ j, j ≠ 7 → j ≠ 9 → j ≠ 12 → j ≠ 13 → j ≠ 14 → j ≠ 15 → M1 164 j = M 164 j) ∧ (∀ j, j < 36 → M1 168 j = M 168 j) ∧ (∀ j, j < 6 → M1 169 j = M 169 j) ∧ ∀ j, j < 6 → M1 170 j = M 170 j
theorem gw_rf {M : am_M} : gw M M := ⟨fun _ _ _ _ _ _ _ => rfl, fun _ _ _ _ _ _ _ => rfl, fun _ _ => rfl, fun _ _ => rfl, fun _ _ => rfl⟩
theorem gw_tr {M M1 M2 : am_M} (h1 : gw M M1) (h2 : gw M1 M2) : gw M M2 := ⟨fun k a b c d e j => (h2.1 k a b c d e j).trans (h1.1 k a b c d e j), fun j a b c d e f => (h2.2.1 j a b c d e f).trans (h1.2.1 j a b c d e f), fun j a => (h2.2.2.1 j a).trans (h1.2.2.1 j a), fun j a => (h2.2.2.2.1 j a).trans (h1.2.2.2.1 j a), fun j a => (h2.2.2.2.2 j a).trans (h1.2.2.2.2 j a)⟩
theorem gp_gw {M M1 : am_M} (h : gp M M1) : gw M M1 := ⟨fun k a _ _ _ _ j => h.1 k (by omega) j, fun j _ _ c d e f => h.2 j c d e f, fun j _ => h.1 168 (by omega) j, fun j _ => h.1 169 (by omega) j, fun j _ => h.1 170 (by omega) j⟩
/-- what reading a person changes -/
def gr (M M1 : am_M) : Prop := (∀ k, k ≠ 164 → k ≠ 167 → ∀ j, M1 k j = M k j) ∧ ∀ j, j ≠ 12 → j ≠ 13 → j ≠ 14 → j ≠ 15 → M1 164 j = M 164 j
theorem gr_rf {M : am_M} : gr M M := ⟨fun _ _ _ _ => rfl, fun _ _ _ _ _ => rfl⟩
theorem gr_tr {M M1 M2 : am_M} (h1 : gr M M1) (h2 : gr M1 M2) : gr M M2 := ⟨fun k a b j => (h2.1 k a b j).trans (h1.1 k a b j), fun j a b c d => (h2.2 j a b c d).trans (h1.2 j a b c d)⟩
theorem gp_gr {M M1 : am_M} (h : gp M M1) : gr M M1 := ⟨fun k a _ j => h.1 k (by omega) j, h.2⟩
theorem gr_wr {M : am_M} {j v : Int} : gr M (am_wr M 167 j v) := ⟨fun k _ b i => am_wr_k b, fun i _ _ _ _ => am_wr_k (by omega)⟩
theorem gr_gw {M M1 : am_M} (h : gr M M1) : gw M M1 := ⟨fun k a b _ _ _ j => h.1 k a b j, fun j _ _ c d e f => h.2 j c d e f, fun j _ => h.1 168 (by omega) (by omega) j, fun j _ => h.1 169 (by omega) (by omega) j, fun j _ => h.1 170 (by omega) (by omega) j⟩
/-- what reading stops of line l changes -/
def gs (l : Int) (M M1 : am_M) : Prop := (∀ k, k ≠ 164 → k ≠ 168 → ∀ j, M1 k j = M k j) ∧ (∀ j, j ≠ 12 → j ≠ 13 → j ≠ 14 → j ≠ 15 → M1 164 j = M 164 j) ∧ ∀ j, (j < 6 * l ∨ 6 * l + 6 ≤ j) → M1 168 j = M 168 j
theorem gs_rf {l : Int} {M : am_M} : gs l M M := ⟨fun _ _ _ _ => rfl, fun _ _ _ _ _ => rfl, fun _ _ => rfl⟩
theorem gs_tr {l : Int} {M M1 M2 : am_M} (h1 : gs l M M1) (h2 : gs l M1 M2) : gs l M M2 := ⟨fun k a b j => (h2.1 k a b j).trans (h1.1 k a b j), fun j a b c d => (h2.2.1 j a b c d).trans (h1.2.1 j a b c d), fun j a => (h2.2.2 j a).trans (h1.2.2 j a)⟩
theorem gp_gs {l : Int} {M M1 : am_M} (h : gp M M1) : gs l M M1 := ⟨fun k a _ j => h.1 k (by omega) j, h.2, fun j _ => h.1 168 (by omega) j⟩
theorem gs_wr {l : Int} {M : am_M} {j v : Int} (h : 6 * l ≤ j ∧ j < 6 * l + 6) : gs l M (am_wr M 168 j v) := ⟨fun k _ b i => am_wr_k b, fun i _ _ _ _ => am_wr_k (by omega), fun i hi => am_wr_i (by omega)⟩
theorem gs_gw {l : Int} {M M1 : am_M} (h : gs l M M1) (hl : 6 ≤ l) : gw M M1 := ⟨fun k a _ b _ _ j => h.1 k a b j, fun j _ _ c d e f => h.2.1 j c d e f, fun j hj => h.2.2 j (by omega), fun j _ => h.1 169 (by omega) (by omega) j, fun j _ => h.1 170 (by omega) (by omega) j⟩
def mN (p q : Int) (N : Int → Int → Int) (M : am_M) : Prop := ∀ a c, 0 ≤ a → a < 8 → 0 ≤ c → c < 8 → ((a < p ∧ c < p) ∨ (a = p ∧ c < q) ∨ (c = p ∧ a < q)) → M 167 (64 + 8 * a + c) = N a c
/-- from the k-th number on, which stands at j -/
def ssn (T : Int → Int) (L m : Int) (n : Nat) (k j : Int) (F : Int → Int) : vO (Int × Int × (Int → Int)) := if tn T L j m ≠ 0 then Sum.inl (tn T L j m, j) else if vfi F (tw T L j) k.toNat 0 ≠ -1 then Sum.inl (4, j) else ss T L m n (k + 1) (tb T L (te T L j)) (fun a => if a = k then tw T L j else F a)
section MREAD2
variable {S : am_S} {M M1 : am_M} {T : Int → Int} {L a i : Int} {D : vD}
theorem mV_j {j v n p : Int} (g : mV T L n p M) (h1 : j ≠ 11) (h2 : j ≠ 12) (h3 : j ≠ 14) (h4 : j ≠ 15) : mV T L n p (am_wr M 164 j v) := by
  obtain ⟨⟨b, r⟩, e1, e2, e3⟩ := g
  exact ⟨⟨b, md_j r h1 h2⟩, (am_wr_i (by omega)).trans e1, (am_wr_i (by omega)).trans e2, e3⟩
theorem mg_j {j v : Int} (g : mg T L a M) (h1 : j ≠ 11) (h2 : j ≠ 12) (h3 : j ≠ 14) (h4 : j ≠ 15) : mg T L a (am_wr M 164 j v) := ⟨md_j g.1 h1 h2, (am_wr_i (by omega)).trans g.2.1, (am_wr_i (by omega)).trans g.2.2⟩
theorem mN_put {p q v : Int} {N : Int → Int → Int} (h : mN p q N M) (h1 : 0 ≤ p) (h2 : p < 8) (h3 : 0 ≤ q) (h4 : q < p) : mN p (q + 1) (nst N p q v) (am_wr (am_wr M 167 (64 + 8 * p + q) v) 167 (64 + 8 * q + p) v) := by
  intro a c a1 a2 c1 c2 hac
  unfold nst
  by_cases e : (a = p ∧ c = q) ∨ (a = q ∧ c = p)
  · rw [if_pos e]
    rcases e with ⟨rfl, rfl⟩ | ⟨rfl, rfl⟩
    · rw [am_wr_i (by omega), am_wr_s]
    · rw [am_wr_s]
  · rw [if_neg e, am_wr_i (by omega), am_wr_i (by omega)]
    exact h a c a1 a2 c1 c2 (by omega)
theorem m_person_f (hS : ly S) {p k pl w : Int} (p1 : 0 ≤ p) (p2 : p < 8) : ∀ (n : Nat) (q : Int) (M : am_M) (o4 : Option am_V), 0 ≤ q → q + n = p → mV T L k pl M → ∃ M1 o5, am_R 114 31 [some (am_r 164), some (am_i w), some (am_i p), some (am_i q), o4] [] S M = am_R 114 91 [some (am_r 164), some (am_i w), some (am_i p), some (am_i p), o5] [] S M1 ∧ mV T L k pl M1 ∧ gr M M1 := by
  obtain ⟨mo0, ⟨mr0, mr1, mr2, mr3, mr4, mr5, mr6, mr7, mr8, mr9, mr10, mr11⟩, mk0, mk1, mk2, mk3, mk4, mk5, mk6, mk7, mk8, mk9, mk10, mk11⟩ := hS.2.2.2.2.2.2.2.2.2.2
  intro n
  induction n with
  | zero =>
    intro q M o4 q1 q2 g
    obtain rfl : q = p := by omega
    refine ⟨M, o4, ?_, g, gr_rf⟩
    rw [b_Mo_takePerson_31]
    simp (disch := omega) only [am_ck_T, am_ck_t, am_cif_t, am_cif_f, am_cif_T, am_cif_F, am_then_s, am_push_s, am_push_n, true_and, and_true, true_or, or_true, Int.cast_ofNat_Int, am_02, am_22, not_true_eq_false, not_false_eq_true]
  | succ n ih =>
    intro q M o4 q1 q2 g
    have c1 := m_commaF hS g
    have c2 := m_inF (m := 9) hS g
    obtain ⟨M1, o5, d1, d2, d3⟩ := ih (q + 1) (am_wr (am_wr M 167 (64 + 8 * p + q) 0) 167 (64 + 8 * q + p) 0) (some (am_i 0)) (by omega) (by omega) (mV_k (mV_k g (by omega) (by omega)) (by omega) (by omega))
    refine ⟨M1, o5, ?_, d2, gr_tr gr_wr (gr_tr gr_wr d3)⟩
    rw [b_Mo_takePerson_31]
    by_cases hq : q ≤ 0
    · simp (disch := omega) only [b_Mo_takePerson_36, b_Mo_takePerson_44, b_Mo_takePerson_51, mo0, mr0, mr1, mr2, mr3, mr4, mr5, mr6, mr7, mr8, mr9, mr10, mr11, mk0, mk1, mk2, mk3, mk4, mk5, mk6, mk7, mk8, mk9, mk10, mk11, c2, d1, am_ck_T, am_ck_t, am_cif_t, am_cif_f, am_cif_T, am_cif_F, am_then_s, am_push_s, am_push_n, true_and, and_true, true_or, or_true, Int.cast_ofNat_Int, am_02, am_22, not_true_eq_false, not_false_eq_true]
    · simp (disch := omega) only [b_Mo_takePerson_36, b_Mo_takePerson_40, b_Mo_takePerson_44, b_Mo_takePerson_51, mo0, mr0, mr1, mr2, mr3, mr4, mr5, mr6, mr7, mr8, mr9, mr10, mr11, mk0, mk1, mk2, mk3, mk4, mk5, mk6, mk7, mk8, mk9, mk10, mk11, c1, c2, d1, am_ck_T, am_ck_t, am_cif_t, am_cif_f, am_cif_T, am_cif_F, am_then_s, am_push_s, am_push_n, true_and, and_true, true_or, or_true, Int.cast_ofNat_Int, am_02, am_22, not_true_eq_false, not_false_eq_true]
theorem m_person_loop (hS : ly S) (hT : hTL T L) {p w : Int} (p1 : 0 ≤ p) (p2 : p < 8) : ∀ (n : Nat) (q a : Int) (N : Int → Int → Int) (M : am_M) (o4 : Option am_V), 0 ≤ q → q + n = p → mg T L a M → mN p q N M →
    (∃ f M1 o5, sp1 T L p n q (tb T L a) N = Sum.inl f ∧ am_R 114 31 [some (am_r 164), some (am_i w), some (am_i p), some (am_i q), o4] [] S M = am_R 114 91 [some (am_r 164), some (am_i w), some (am_i p), some (am_i p), o5] [] S M1 ∧ mV T L f.1 f.2 M1 ∧ gr M M1) ∨
    (∃ t M1 o5, sp1 T L p n q (tb T L a) N = Sum.inr t ∧ am_R 114 31 [some (am_r 164), some (am_i w), some (am_i p), some (am_i q), o4] [] S M = am_R 114 91 [some (am_r 164), some (am_i w), some (am_i p), some (am_i p), o5] [] S M1 ∧ (∃ a, mg T L a M1 ∧ tb T L a = t.1) ∧ mN p p t.2 M1 ∧ gr M M1) := by
  obtain ⟨mo0, ⟨mr0, mr1, mr2, mr3, mr4, mr5, mr6, mr7, mr8, mr9, mr10, mr11⟩, mk0, mk1, mk2, mk3, mk4, mk5, mk6, mk7, mk8, mk9, mk10, mk11⟩ := hS.2.2.2.2.2.2.2.2.2.2
  intro n
  induction n with
  | zero =>
    intro q a N M o4 q1 q2 g cn
    obtain rfl : q = p := by omega
    refine Or.inr ⟨(tb T L a, N), M, o4, rfl, ?_, ⟨a, g, rfl⟩, cn, gr_rf⟩
    rw [b_Mo_takePerson_31]
    simp (disch := omega) only [am_ck_T, am_ck_t, am_cif_t, am_cif_f, am_cif_T, am_cif_F, am_then_s, am_push_s, am_push_n, true_and, and_true, true_or, or_true, Int.cast_ofNat_Int, am_02, am_22, not_true_eq_false, not_false_eq_true]
  | succ n ih =>
    intro q a N M o4 q1 q2 g cn
    have uf : sp1 T L p (n + 1) q (tb T L a) N = if 0 < q ∧ ¬ (tb T L a < L ∧ T (tb T L a) = 44) then Sum.inl (1, tb T L a) else if tn T L (tj T L q (tb T L a)) 9 ≠ 0 then Sum.inl (tn T L (tj T L q (tb T L a)) 9, tj T L q (tb T L a)) else sp1 T L p n (q + 1) (tb T L (te T L (tj T L q (tb T L a)))) (nst N p q (tw T L (tj T L q (tb T L a)))) := rfl
    have num : ∀ (b : Int) (M : am_M), mg T L b M → tb T L b = tj T L q (tb T L a) → mN p q N M → ¬ (0 < q ∧ ¬ (tb T L a < L ∧ T (tb T L a) = 44)) →
      (∃ f M1 o5, sp1 T L p (n + 1) q (tb T L a) N = Sum.inl f ∧ am_R 114 44 [some (am_r 164), some (am_i w), some (am_i p), some (am_i q), o4] [] S M = am_R 114 91 [some (am_r 164), some (am_i w), some (am_i p), some (am_i p), o5] [] S M1 ∧ mV T L f.1 f.2 M1 ∧ gr M M1) ∨
      (∃ t M1 o5, sp1 T L p (n + 1) q (tb T L a) N = Sum.inr t ∧ am_R 114 44 [some (am_r 164), some (am_i w), some (am_i p), some (am_i q), o4] [] S M = am_R 114 91 [some (am_r 164), some (am_i w), some (am_i p), some (am_i p), o5] [] S M1 ∧ (∃ a, mg T L a M1 ∧ tb T L a = t.1) ∧ mN p p t.2 M1 ∧ gr M M1) := by
      intro b M g eb cn hc
      rw [uf, if_neg hc, ← eb]
      obtain ⟨M1, v, d1, d2, d3, d4⟩ := m_takeIn hS hT g (show am_Ri 9 from ⟨by omega, by omega⟩)
      by_cases h0 : tn T L (tb T L b) 9 = 0
      · obtain ⟨e1, e2, e3⟩ := d3 h0
        rw [if_neg (fun z => z h0)]
        have cn1 : mN p q N M1 := fun x c a1 a2 c1 c2 hac => (d2.1 167 (by omega) _).trans (cn x c a1 a2 c1 c2 hac)
        have cn2 := mN_put (v := v) cn1 p1 p2 q1 (show q < p by omega)
        have g2 : mg T L (te T L (tb T L b)) (am_wr (am_wr M1 167 (64 + 8 * p + q) v) 167 (64 + 8 * q + p) v) := mg_k (mg_k e2 (by omega) (by omega)) (by omega) (by omega)
        have fa : gr M (am_wr (am_wr M1 167 (64 + 8 * p + q) v) 167 (64 + 8 * q + p) v) := gr_tr (gp_gr d2) (gr_tr gr_wr gr_wr)
        rw [← e1]
        rcases ih (q + 1) _ _ _ (some (am_i v)) (by omega) (by omega) g2 cn2 with ⟨f, M2, o5, u1, u2, u3, u4⟩ | ⟨t, M2, o5, u1, u2, u3, u4, u5⟩
        · refine Or.inl ⟨f, M2, o5, u1, ?_, u3, gr_tr fa u4⟩
          simp (disch := omega) only [b_Mo_takePerson_44, b_Mo_takePerson_51, mo0, mr0, mr1, mr2, mr3, mr4, mr5, mr6, mr7, mr8, mr9, mr10, mr11, mk0, mk1, mk2, mk3, mk4, mk5, mk6, mk7, mk8, mk9, mk10, mk11, d1, u2, am_ck_T, am_ck_t, am_cif_t, am_cif_f, am_cif_T, am_cif_F, am_then_s, am_push_s, am_push_n, true_and, and_true, true_or, or_true, Int.cast_ofNat_Int, am_02, am_22, not_true_eq_false, not_false_eq_true]
        · refine Or.inr ⟨t, M2, o5, u1, ?_, u3, u4, gr_tr fa u5⟩
          simp (disch := omega) only [b_Mo_takePerson_44, b_Mo_takePerson_51, mo0, mr0, mr1, mr2, mr3, mr4, mr5, mr6, mr7, mr8, mr9, mr10, mr11, mk0, mk1, mk2, mk3, mk4, mk5, mk6, mk7, mk8, mk9, mk10, mk11, d1, u2, am_ck_T, am_ck_t, am_cif_t, am_cif_f, am_cif_T, am_cif_F, am_then_s, am_push_s, am_push_n, true_and, and_true, true_or, or_true, Int.cast_ofNat_Int, am_02, am_22, not_true_eq_false, not_false_eq_true]
      · obtain ⟨e1, e2⟩ := d4 h0
        rw [if_pos h0]
        obtain ⟨M2, o5, u1, u2, u3⟩ := m_person_f (w := w) hS p1 p2 n (q + 1) (am_wr (am_wr M1 167 (64 + 8 * p + q) v) 167 (64 + 8 * q + p) v) (some (am_i v)) (by omega) (by omega) (mV_k (mV_k e2 (by omega) (by omega)) (by omega) (by omega))
        refine Or.inl ⟨_, M2, o5, rfl, ?_, u2, gr_tr (gp_gr d2) (gr_tr gr_wr (gr_tr gr_wr u3))⟩
        simp (disch := omega) only [b_Mo_takePerson_44, b_Mo_takePerson_51, mo0, mr0, mr1, mr2, mr3, mr4, mr5, mr6, mr7, mr8, mr9, mr10, mr11, mk0, mk1, mk2, mk3, mk4, mk5, mk6, mk7, mk8, mk9, mk10, mk11, d1, u1, am_ck_T, am_ck_t, am_cif_t, am_cif_f, am_cif_T, am_cif_F, am_then_s, am_push_s, am_push_n, true_and, and_true, true_or, or_true, Int.cast_ofNat_Int, am_02, am_22, not_true_eq_false, not_false_eq_true]
    rw [b_Mo_takePerson_31]
    by_cases hq : 0 < q
    · obtain ⟨M1, d1, d2, d3, d4⟩ := m_comma hS hT g
      by_cases hc : tb T L a < L ∧ T (tb T L a) = 44
      · have g1 := d3 hc
        have ej : tb T L (tb T L a + 1) = tj T L q (tb T L a) := by unfold tj; rw [if_pos hq]
        have cn1 : mN p q N M1 := fun x c a1 a2 c1 c2 hac => (d2.1 167 (by omega) _).trans (cn x c a1 a2 c1 c2 hac)
        rcases num _ M1 g1 ej cn1 (fun z => z.2 hc) with ⟨f, M2, o5, u1, u2, u3, u4⟩ | ⟨t, M2, o5, u1, u2, u3, u4, u5⟩
        · refine Or.inl ⟨f, M2, o5, u1, ?_, u3, gr_tr (gp_gr d2) u4⟩
          simp (disch := omega) only [b_Mo_takePerson_36, b_Mo_takePerson_40, mo0, mr0, mr1, mr2, mr3, mr4, mr5, mr6, mr7, mr8, mr9, mr10, mr11, mk0, mk1, mk2, mk3, mk4, mk5, mk6, mk7, mk8, mk9, mk10, mk11, d1, u2, am_ck_T, am_ck_t, am_cif_t, am_cif_f, am_cif_T, am_cif_F, am_then_s, am_push_s, am_push_n, true_and, and_true, true_or, or_true, Int.cast_ofNat_Int, am_02, am_22, not_true_eq_false, not_false_eq_true]
        · refine Or.inr ⟨t, M2, o5, u1, ?_, u3, u4, gr_tr (gp_gr d2) u5⟩
          simp (disch := omega) only [b_Mo_takePerson_36, b_Mo_takePerson_40, mo0, mr0, mr1, mr2, mr3, mr4, mr5, mr6, mr7, mr8, mr9, mr10, mr11, mk0, mk1, mk2, mk3, mk4, mk5, mk6, mk7, mk8, mk9, mk10, mk11, d1, u2, am_ck_T, am_ck_t, am_cif_t, am_cif_f, am_cif_T, am_cif_F, am_then_s, am_push_s, am_push_n, true_and, and_true, true_or, or_true, Int.cast_ofNat_Int, am_02, am_22, not_true_eq_false, not_false_eq_true]
      · have gv := d4 hc
        have c2 := m_inF (m := 9) hS gv
        obtain ⟨M2, o5, u1, u2, u3⟩ := m_person_f (w := w) hS p1 p2 n (q + 1) (am_wr (am_wr M1 167 (64 + 8 * p + q) 0) 167 (64 + 8 * q + p) 0) (some (am_i 0)) (by omega) (by omega) (mV_k (mV_k gv (by omega) (by omega)) (by omega) (by omega))
        refine Or.inl ⟨(1, tb T L a), M2, o5, by rw [uf, if_pos ⟨hq, hc⟩], ?_, u2, gr_tr (gp_gr d2) (gr_tr gr_wr (gr_tr gr_wr u3))⟩
        simp (disch := omega) only [b_Mo_takePerson_36, b_Mo_takePerson_40, b_Mo_takePerson_44, b_Mo_takePerson_51, mo0, mr0, mr1, mr2, mr3, mr4, mr5, mr6, mr7, mr8, mr9, mr10, mr11, mk0, mk1, mk2, mk3, mk4, mk5, mk6, mk7, mk8, mk9, mk10, mk11, d1, c2, u1, am_ck_T, am_ck_t, am_cif_t, am_cif_f, am_cif_T, am_cif_F, am_then_s, am_push_s, am_push_n, true_and, and_true, true_or, or_true, Int.cast_ofNat_Int, am_02, am_22, not_true_eq_false, not_false_eq_true]
    · have ej : tb T L a = tj T L q (tb T L a) := by unfold tj; rw [if_neg hq]
      rcases num a M g ej cn (fun z => hq z.1) with ⟨f, M2, o5, u1, u2, u3, u4⟩ | ⟨t, M2, o5, u1, u2, u3, u4, u5⟩
      · refine Or.inl ⟨f, M2, o5, u1, ?_, u3, u4⟩
        simp (disch := omega) only [b_Mo_takePerson_36, mo0, mr0, mr1, mr2, mr3, mr4, mr5, mr6, mr7, mr8, mr9, mr10, mr11, mk0, mk1, mk2, mk3, mk4, mk5, mk6, mk7, mk8, mk9, mk10, mk11, u2, am_ck_T, am_ck_t, am_cif_t, am_cif_f, am_cif_T, am_cif_F, am_then_s, am_push_s, am_push_n, true_and, and_true, true_or, or_true, Int.cast_ofNat_Int, am_02, am_22, not_true_eq_false, not_false_eq_true]
      · refine Or.inr ⟨t, M2, o5, u1, ?_, u3, u4, u5⟩
        simp (disch := omega) only [b_Mo_takePerson_36, mo0, mr0, mr1, mr2, mr3, mr4, mr5, mr6, mr7, mr8, mr9, mr10, mr11, mk0, mk1, mk2, mk3, mk4, mk5, mk6, mk7, mk8, mk9, mk10, mk11, u2, am_ck_T, am_ck_t, am_cif_t, am_cif_f, am_cif_T, am_cif_F, am_then_s, am_push_s, am_push_n, true_and, and_true, true_or, or_true, Int.cast_ofNat_Int, am_02, am_22, not_true_eq_false, not_false_eq_true]
theorem m_person (hS : ly S) (hT : hTL T L) (hD : okD D) (g : mg T L (i + 1) M) (cd : mD D M) (hi : am_Ri i) : ∃ M1, am_call 114 [am_r 164, am_i i] S M = some (none, S, M1) ∧ gw M M1 ∧ mO T L (sp0 T L i D) M1 := by
  obtain ⟨mo0, ⟨mr0, mr1, mr2, mr3, mr4, mr5, mr6, mr7, mr8, mr9, mr10, mr11⟩, mk0, mk1, mk2, mk3, mk4, mk5, mk6, mk7, mk8, mk9, mk10, mk11⟩ := hS.2.2.2.2.2.2.2.2.2.2
  have hP := hD.1
  have hP1 := hP.1
  have hP2 := hP.2.1
  have hP3 := hP.2.2.1
  have hP4 := hP.2.2.2.1
  have n1 := cd.1
  have q14 := g.2.1
  by_cases h8 : 8 ≤ vnp D.1
  · have e2 := m_want0 (n := 3) (w := i) hS q14 (by omega) (by omega)
    have es : sp0 T L i D = Sum.inl (3, i) := by unfold sp0; rw [if_pos h8]
    refine ⟨am_wr (am_wr M 164 14 3) 164 15 i, ?_, gp_gw (gp_tr (gp_wr (by omega)) (gp_wr (by omega))), ?_⟩
    · simp (disch := omega) only [c_Mo_takePerson, b_Mo_takePerson_0, b_Mo_takePerson_14, b_Mo_takePerson_15, b_Mo_takePerson_20, b_Mo_takePerson_23, mo0, mr0, mr1, mr2, mr3, mr4, mr5, mr6, mr7, mr8, mr9, mr10, mr11, mk0, mk1, mk2, mk3, mk4, mk5, mk6, mk7, mk8, mk9, mk10, mk11, n1, e2, am_ck_T, am_ck_t, am_cif_t, am_cif_f, am_cif_T, am_cif_F, am_then_s, am_push_s, am_push_n, true_and, and_true, true_or, or_true, Int.cast_ofNat_Int, am_02, am_22, not_true_eq_false, not_false_eq_true]
    · rw [es]; exact mV_mark g.1 (by omega) (by omega)
  · have es : sp0 T L i D = sp2 (vnp D.1) (vnl D.1) D.1.2 (sp1 T L (vnp D.1) (vnp D.1).toNat 0 (tb T L (i + 1)) D.2) := by unfold sp0; rw [if_neg h8]
    have e2 := m_want1 (n := 3) (w := i) hS q14
    have cn : mN (vnp D.1) 0 D.2 M := fun a c b1 b2 b3 b4 hac => cd.2.2.2.2 a c b1 (by omega) b3 (by omega)
    rw [es]
    rcases m_person_loop (w := i) hS hT hP1 (show vnp D.1 < 8 by omega) (vnp D.1).toNat 0 (i + 1) D.2 M none (by omega) (by omega) g cn with ⟨f, M2, o5, u1, u2, u3, u4⟩ | ⟨t, M2, o5, u1, u2, u3, u4, u5⟩
    · have n2 : am_wr M2 167 (64 + 9 * vnp D.1) 9 164 7 = vnp D.1 := (am_wr_k (by omega)).trans ((u4.2 7 (by omega) (by omega) (by omega) (by omega)).trans n1)
      refine ⟨am_wr (am_wr M2 167 (64 + 9 * vnp D.1) 9) 164 7 (vnp D.1 + 1), ?_, gw_tr (gr_gw (gr_tr u4 (gr_wr (j := 64 + 9 * vnp D.1) (v := 9)))) ?_, ?_⟩
      · simp (disch := omega) only [c_Mo_takePerson, b_Mo_takePerson_0, b_Mo_takePerson_10, b_Mo_takePerson_15, b_Mo_takePerson_20, b_Mo_takePerson_24, b_Mo_takePerson_91, mo0, mr0, mr1, mr2, mr3, mr4, mr5, mr6, mr7, mr8, mr9, mr10, mr11, mk0, mk1, mk2, mk3, mk4, mk5, mk6, mk7, mk8, mk9, mk10, mk11, n1, e2, u2, n2, am_ck_T, am_ck_t, am_cif_t, am_cif_f, am_cif_T, am_cif_F, am_then_s, am_push_s, am_push_n, true_and, and_true, true_or, or_true, Int.cast_ofNat_Int, am_02, am_22, not_true_eq_false, not_false_eq_true]
      · exact ⟨fun k a _ _ _ _ j => am_wr_k a, fun j a _ _ _ _ _ => am_wr_i a, fun j _ => am_wr_k (by omega), fun j _ => am_wr_k (by omega), fun j _ => am_wr_k (by omega)⟩
      · rw [u1]; exact mV_j (mV_k u3 (by omega) (by omega)) (by omega) (by omega) (by omega) (by omega)
    · have n2 : am_wr M2 167 (64 + 9 * vnp D.1) 9 164 7 = vnp D.1 := (am_wr_k (by omega)).trans ((u5.2 7 (by omega) (by omega) (by omega) (by omega)).trans n1)
      refine ⟨am_wr (am_wr M2 167 (64 + 9 * vnp D.1) 9) 164 7 (vnp D.1 + 1), ?_, gw_tr (gr_gw (gr_tr u5 (gr_wr (j := 64 + 9 * vnp D.1) (v := 9)))) ?_, ?_⟩
      · simp (disch := omega) only [c_Mo_takePerson, b_Mo_takePerson_0, b_Mo_takePerson_10, b_Mo_takePerson_15, b_Mo_takePerson_20, b_Mo_takePerson_24, b_Mo_takePerson_91, mo0, mr0, mr1, mr2, mr3, mr4, mr5, mr6, mr7, mr8, mr9, mr10, mr11, mk0, mk1, mk2, mk3, mk4, mk5, mk6, mk7, mk8, mk9, mk10, mk11, n1, e2, u2, n2, am_ck_T, am_ck_t, am_cif_t, am_cif_f, am_cif_T, am_cif_F, am_then_s, am_push_s, am_push_n, true_and, and_true, true_or, or_true, Int.cast_ofNat_Int, am_02, am_22, not_true_eq_false, not_false_eq_true]
      · exact ⟨fun k a _ _ _ _ j => am_wr_k a, fun j a _ _ _ _ _ => am_wr_i a, fun j _ => am_wr_k (by omega), fun j _ => am_wr_k (by omega), fun j _ => am_wr_k (by omega)⟩
      · rw [u1]
        obtain ⟨b, g2, eb⟩ := u3
        refine ⟨⟨b, mg_j (mg_k g2 (by omega) (by omega)) (by omega) (by omega) (by omega) (by omega), eb⟩, am_wr_s, ?_, fun l l1 l2 => ⟨?_, ?_⟩, fun l k l1 l2 k1 k2 => ?_, fun x c c1 c2 c3 c4 => ?_⟩
        · exact (am_wr_i (by omega)).trans ((am_wr_k (by omega)).trans ((u5.2 9 (by omega) (by omega) (by omega) (by omega)).trans cd.2.1))
        · exact (am_wr_k (by omega)).trans ((am_wr_k (by omega)).trans ((u5.1 169 (by omega) (by omega) _).trans (cd.2.2.1 l l1 l2).1))
        · exact (am_wr_k (by omega)).trans ((am_wr_k (by omega)).trans ((u5.1 170 (by omega) (by omega) _).trans (cd.2.2.1 l l1 l2).2))
        · exact (am_wr_k (by omega)).trans ((am_wr_k (by omega)).trans ((u5.1 168 (by omega) (by omega) _).trans (cd.2.2.2.1 l k l1 l2 k1 k2)))
        · have c2' : x < vnp D.1 + 1 := c2
          have c4' : c < vnp D.1 + 1 := c4
          show _ = nst t.2 (vnp D.1) (vnp D.1) 9 x c
          rw [am_wr_k (by omega)]
          unfold nst
          by_cases e : (x = vnp D.1 ∧ c = vnp D.1) ∨ (x = vnp D.1 ∧ c = vnp D.1)
          · rw [if_pos e]
            have : 64 + 8 * x + c = 64 + 9 * vnp D.1 := by omega
            rw [this, am_wr_s]
          · rw [if_neg e, am_wr_i (by omega)]
            exact u4 x c c1 (by omega) c3 (by omega) (by omega)
theorem vfi_iff {F : Int → Int} {x k : Int} (hk : 0 ≤ k) : vfi F x k.toNat 0 ≠ -1 ↔ ∃ b, 0 ≤ b ∧ b < k ∧ F b = x := by
  constructor
  · intro h
    have r := vfi_rng F x k.toNat 0
    exact ⟨vfi F x k.toNat 0, by omega, by omega, vfi_some F x k.toNat 0 (by omega) h⟩
  · rintro ⟨b, b1, b2, b3⟩ h
    exact vfi_none F x k.toNat 0 (by omega) h b b1 (by omega) b3
theorem m_takeStop (hS : ly S) (hT : hTL T L) (g : mg T L a M) {np had : Int} {Q : Int → Prop} (n1 : M 164 7 = np) (np1 : 0 ≤ np) (np2 : np ≤ 8) (hb : bs had Q) : ∃ M1 x, am_call 115 [am_r 164, am_i had] S M = some (some (am_i x), S, M1) ∧ gp M M1 ∧ (tn T L (tb T L a) (np - 1) ≠ 0 → x = 0 ∧ mV T L (tn T L (tb T L a) (np - 1)) (tb T L a) M1) ∧ (tn T L (tb T L a) (np - 1) = 0 → Q (tw T L (tb T L a)) → x = tw T L (tb T L a) ∧ mV T L 4 (tb T L a) M1) ∧ (tn T L (tb T L a) (np - 1) = 0 → ¬ Q (tw T L (tb T L a)) → x = tw T L (tb T L a) ∧ mg T L (te T L (tb T L a)) M1) := by
  obtain ⟨mo0, ⟨mr0, mr1, mr2, mr3, mr4, mr5, mr6, mr7, mr8, mr9, mr10, mr11⟩, mk0, mk1, mk2, mk3, mk4, mk5, mk6, mk7, mk8, mk9, mk10, mk11⟩ := hS.2.2.2.2.2.2.2.2.2.2
  obtain ⟨Ma, v, d1, d2, d3, d4⟩ := m_takeIn hS hT g (show am_Ri (np - 1) from ⟨by omega, by omega⟩)
  have ra := tb_rng (T := T) g.1.2.2.2.2
  by_cases h0 : tn T L (tb T L a) (np - 1) = 0
  · obtain ⟨e1, e2, e3⟩ := d3 h0
    have t0 := tn_0 h0
    have rv := tw_rng ra.2 t0.2.1
    have hs := m_has (S := S) (M := Ma) had v
    have b1 := bs_1 hb (q := v) (by omega) (by omega)
    rw [b1] at hs
    have z14 := e2.2.1
    by_cases hq : Q (tw T L (tb T L a))
    · rw [bo_t (show Q v by rw [e1]; exact hq), bo_t (rfl : (1 : Int) = 1)] at hs
      have y := m_want0 (n := 4) (w := tb T L a) hS z14 (by omega) (by omega)
      refine ⟨am_wr (am_wr Ma 164 14 4) 164 15 (tb T L a), v, ?_, gp_tr d2 (gp_tr (gp_wr (by omega)) (gp_wr (by omega))), fun z => absurd h0 z, fun _ _ => ⟨e1, mV_mark e2.1 (by omega) (by omega)⟩, fun _ z => absurd hq z⟩
      simp (disch := omega) only [c_Mo_takeStop, b_Mo_takeStop_0, b_Mo_takeStop_11, b_Mo_takeStop_20, b_Mo_takeStop_25, b_Mo_takeStop_32, b_Mo_takeStop_33, b_Mo_takeStop_41, mo0, mr0, mr1, mr2, mr3, mr4, mr5, mr6, mr7, mr8, mr9, mr10, mr11, mk0, mk1, mk2, mk3, mk4, mk5, mk6, mk7, mk8, mk9, mk10, mk11, n1, d1, z14, hs, e3, y, am_ck_T, am_ck_t, am_cif_t, am_cif_f, am_cif_T, am_cif_F, am_then_s, am_push_s, am_push_n, true_and, and_true, true_or, or_true, Int.cast_ofNat_Int, am_02, am_22, not_true_eq_false, not_false_eq_true]
    · rw [bo_f (show ¬ Q v by rw [e1]; exact hq), bo_f (show ¬ (0 : Int) = 1 by omega)] at hs
      have y := m_want1 (n := 4) (w := tb T L a) hS z14
      refine ⟨Ma, v, ?_, d2, fun z => absurd h0 z, fun _ z => absurd z hq, fun _ _ => ⟨e1, e2⟩⟩
      simp (disch := omega) only [c_Mo_takeStop, b_Mo_takeStop_0, b_Mo_takeStop_11, b_Mo_takeStop_20, b_Mo_takeStop_25, b_Mo_takeStop_28, b_Mo_takeStop_33, b_Mo_takeStop_41, mo0, mr0, mr1, mr2, mr3, mr4, mr5, mr6, mr7, mr8, mr9, mr10, mr11, mk0, mk1, mk2, mk3, mk4, mk5, mk6, mk7, mk8, mk9, mk10, mk11, n1, d1, z14, hs, e3, y, am_ck_T, am_ck_t, am_cif_t, am_cif_f, am_cif_T, am_cif_F, am_then_s, am_push_s, am_push_n, true_and, and_true, true_or, or_true, Int.cast_ofNat_Int, am_02, am_22, not_true_eq_false, not_false_eq_true]
  · obtain ⟨e1, e2⟩ := d4 h0
    have y := m_wantF (n := 4) (w := Ma 164 13) hS e2 (show am_Ri 1 from ⟨by omega, by omega⟩)
    have e3 := e2
    obtain ⟨_, k1, k2, k3, k4⟩ := e3
    refine ⟨Ma, v, ?_, d2, fun _ => ⟨e1, e2⟩, fun z => absurd z h0, fun z => absurd z h0⟩
    simp (disch := omega) only [c_Mo_takeStop, b_Mo_takeStop_0, b_Mo_takeStop_11, b_Mo_takeStop_28, b_Mo_takeStop_33, b_Mo_takeStop_41, mo0, mr0, mr1, mr2, mr3, mr4, mr5, mr6, mr7, mr8, mr9, mr10, mr11, mk0, mk1, mk2, mk3, mk4, mk5, mk6, mk7, mk8, mk9, mk10, mk11, n1, d1, k1, y, am_ck_T, am_ck_t, am_cif_t, am_cif_f, am_cif_T, am_cif_F, am_then_s, am_push_s, am_push_n, true_and, and_true, true_or, or_true, Int.cast_ofNat_Int, am_02, am_22, not_true_eq_false, not_false_eq_true]
end MREAD2
