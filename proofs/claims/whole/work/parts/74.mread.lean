/-! the reference reads the text: words, persons -/
def md (T : Int → Int) (L a : Int) (M : am_M) : Prop := M 164 11 = L ∧ M 164 12 = a ∧ (∀ j, 0 ≤ j → j < L → M 171 j = T j) ∧ 0 ≤ a ∧ a ≤ L
/-- no fault yet, at a -/
def mg (T : Int → Int) (L a : Int) (M : am_M) : Prop := md T L a M ∧ M 164 14 = 0 ∧ M 164 15 = -1
/-- a fault -/
def mV (T : Int → Int) (L k p : Int) (M : am_M) : Prop := (∃ a, md T L a M) ∧ M 164 14 = k ∧ M 164 15 = p ∧ 1 ≤ k ∧ k ≤ 4
/-- only these of the reference's own places change -/
def gp (M M1 : am_M) : Prop := fr 164 164 M M1 ∧ ∀ j, j ≠ 12 → j ≠ 13 → j ≠ 14 → j ≠ 15 → M1 164 j = M 164 j
theorem gp_rf {M : am_M} : gp M M := ⟨fr_rf, fun _ _ _ _ _ => rfl⟩
theorem gp_tr {M M1 M2 : am_M} (h1 : gp M M1) (h2 : gp M1 M2) : gp M M2 := ⟨fr_tr h1.1 h2.1, fun j a b c d => (h2.2 j a b c d).trans (h1.2 j a b c d)⟩
theorem gp_wr {M : am_M} {j v : Int} (h : 12 ≤ j ∧ j ≤ 15) : gp M (am_wr M 164 j v) := ⟨fr_wr (by omega), fun k a b c d => am_wr_i (by omega)⟩
def g12 (M M1 : am_M) : Prop := fr 164 164 M M1 ∧ ∀ j, j ≠ 12 → M1 164 j = M 164 j
theorem g12_rf {M : am_M} : g12 M M := ⟨fr_rf, fun _ _ => rfl⟩
theorem g12_tr {M M1 M2 : am_M} (h1 : g12 M M1) (h2 : g12 M1 M2) : g12 M M2 := ⟨fr_tr h1.1 h2.1, fun j a => (h2.2 j a).trans (h1.2 j a)⟩
theorem g12_wr {M : am_M} {v : Int} : g12 M (am_wr M 164 12 v) := ⟨fr_wr (by omega), fun j hj => am_wr_i hj⟩
theorem g12_gp {M M1 : am_M} (h : g12 M M1) : gp M M1 := ⟨h.1, fun j a _ _ _ => h.2 j a⟩
section MREAD
variable {S : am_S} {M M1 : am_M} {T : Int → Int} {L a i : Int} {D : vD}
theorem md_set {j : Int} (r : md T L a M) (h1 : 0 ≤ j) (h2 : j ≤ L) : md T L j (am_wr M 164 12 j) :=
  ⟨(am_wr_i (by omega)).trans r.1, am_wr_s, fun k k1 k2 => (am_wr_k (by omega)).trans (r.2.2.1 k k1 k2), h1, h2⟩
theorem md_j {j v : Int} (r : md T L a M) (hj : j ≠ 11) (hj2 : j ≠ 12) : md T L a (am_wr M 164 j v) :=
  ⟨(am_wr_i (by omega)).trans r.1, (am_wr_i (by omega)).trans r.2.1, fun k k1 k2 => (am_wr_k (by omega)).trans (r.2.2.1 k k1 k2), r.2.2.2⟩
theorem md_k {k : Nat} {j v : Int} (r : md T L a M) (h1 : k ≠ 164) (h2 : k ≠ 171) : md T L a (am_wr M k j v) :=
  ⟨(am_wr_k (by omega)).trans r.1, (am_wr_k (by omega)).trans r.2.1, fun i i1 i2 => (am_wr_k (by omega)).trans (r.2.2.1 i i1 i2), r.2.2.2⟩
theorem mg_k {k : Nat} {j v : Int} (g : mg T L a M) (h1 : k ≠ 164) (h2 : k ≠ 171) : mg T L a (am_wr M k j v) := ⟨md_k g.1 h1 h2, (am_wr_k (by omega)).trans g.2.1, (am_wr_k (by omega)).trans g.2.2⟩
theorem mV_k {k : Nat} {j v n p : Int} (g : mV T L n p M) (h1 : k ≠ 164) (h2 : k ≠ 171) : mV T L n p (am_wr M k j v) := by
  obtain ⟨⟨b, r⟩, e1, e2, e3⟩ := g
  exact ⟨⟨b, md_k r h1 h2⟩, (am_wr_k (by omega)).trans e1, (am_wr_k (by omega)).trans e2, e3⟩
theorem mg_12 {j : Int} (g : mg T L a M) (h : g12 M M1) (r : md T L j M1) : mg T L j M1 := ⟨r, (h.2 14 (by omega)).trans g.2.1, (h.2 15 (by omega)).trans g.2.2⟩
theorem m_hereL (hS : ly S) (hT : hTL T L) : ∀ (n : Nat) (a : Int) (M : am_M), md T L a M → a + n = L → ∃ M1, am_R 109 0 [some (am_r 164)] [] S M = am_R 109 38 [some (am_r 164)] [] S M1 ∧ md T L (tb T L a) M1 ∧ g12 M M1 := by
  obtain ⟨mo0, ⟨mr0, mr1, mr2, mr3, mr4, mr5, mr6, mr7, mr8, mr9, mr10, mr11⟩, mk0, mk1, mk2, mk3, mk4, mk5, mk6, mk7, mk8, mk9, mk10, mk11⟩ := hS.2.2.2.2.2.2.2.2.2.2
  have t2 := hT.2
  intro n
  induction n with
  | zero =>
    intro a M r hn
    refine ⟨M, ?_, ?_, g12_rf⟩
    · obtain ⟨r1, r2, r3, r4, r5⟩ := r
      rw [b_Mo_here_0]
      simp (disch := omega) only [mo0, mr0, mr1, mr2, mr3, mr4, mr5, mr6, mr7, mr8, mr9, mr10, mr11, mk0, mk1, mk2, mk3, mk4, mk5, mk6, mk7, mk8, mk9, mk10, mk11, r1, r2, am_ck_T, am_ck_t, am_cif_t, am_cif_f, am_cif_T, am_cif_F, am_then_s, am_push_s, am_push_n, true_and, and_true, true_or, or_true, Int.cast_ofNat_Int, am_02, am_22, not_true_eq_false, not_false_eq_true]
    · rw [tb_e (fun z => by omega)]; exact r
  | succ n ih =>
    intro a M r hn
    have t1 := hT.1 a
    have rr := r
    obtain ⟨r1, r2, r3, r4, r5⟩ := r
    have e := r3 a r4 (by omega)
    by_cases h : T a = 32
    · obtain ⟨M1, d1, d2, d3⟩ := ih (a + 1) (am_wr M 164 12 (a + 1)) (md_set rr (by omega) (by omega)) (by omega)
      refine ⟨M1, ?_, ?_, g12_tr g12_wr d3⟩
      · rw [b_Mo_here_0]
        simp (disch := omega) only [b_Mo_here_11, b_Mo_here_25, mo0, mr0, mr1, mr2, mr3, mr4, mr5, mr6, mr7, mr8, mr9, mr10, mr11, mk0, mk1, mk2, mk3, mk4, mk5, mk6, mk7, mk8, mk9, mk10, mk11, r1, r2, e, d1, am_ck_T, am_ck_t, am_cif_t, am_cif_f, am_cif_T, am_cif_F, am_then_s, am_push_s, am_push_n, true_and, and_true, true_or, or_true, Int.cast_ofNat_Int, am_02, am_22, not_true_eq_false, not_false_eq_true]
      · rw [tb_s (by omega) h]; exact d2
    · refine ⟨M, ?_, ?_, g12_rf⟩
      · rw [b_Mo_here_0]
        simp (disch := omega) only [b_Mo_here_11, mo0, mr0, mr1, mr2, mr3, mr4, mr5, mr6, mr7, mr8, mr9, mr10, mr11, mk0, mk1, mk2, mk3, mk4, mk5, mk6, mk7, mk8, mk9, mk10, mk11, r1, r2, e, am_ck_T, am_ck_t, am_cif_t, am_cif_f, am_cif_T, am_cif_F, am_then_s, am_push_s, am_push_n, true_and, and_true, true_or, or_true, Int.cast_ofNat_Int, am_02, am_22, not_true_eq_false, not_false_eq_true]
      · rw [tb_e (fun _ => h)]; exact rr
/-- the letter there; -1: the end -/
def tc (T : Int → Int) (L i : Int) : Int := if i < L then T i else -1
theorem tc_rng (hT : hTL T L) (i : Int) : -1 ≤ tc T L i ∧ tc T L i ≤ 255 := by
  have := hT.1 i
  unfold tc
  by_cases h : i < L
  · rw [if_pos h]; omega
  · rw [if_neg h]; omega
theorem tc_c {c : Int} (h : 0 ≤ c) : tc T L i = c ↔ (i < L ∧ T i = c) := by
  unfold tc
  by_cases e : i < L
  · rw [if_pos e]; exact ⟨fun z => ⟨e, z⟩, fun z => z.2⟩
  · rw [if_neg e]; exact ⟨fun z => by omega, fun z => absurd z.1 e⟩
theorem m_here (hS : ly S) (hT : hTL T L) (r : md T L a M) : ∃ M1, am_call 109 [am_r 164] S M = some (some (am_i (tc T L (tb T L a))), S, M1) ∧ md T L (tb T L a) M1 ∧ g12 M M1 := by
  obtain ⟨mo0, ⟨mr0, mr1, mr2, mr3, mr4, mr5, mr6, mr7, mr8, mr9, mr10, mr11⟩, mk0, mk1, mk2, mk3, mk4, mk5, mk6, mk7, mk8, mk9, mk10, mk11⟩ := hS.2.2.2.2.2.2.2.2.2.2
  have t2 := hT.2
  obtain ⟨M1, d1, d2, d3⟩ := m_hereL hS hT (L - a).toNat a M r (by have := r.2.2.2; omega)
  refine ⟨M1, ?_, d2, d3⟩
  obtain ⟨r1, r2, r3, r4, r5⟩ := d2
  unfold tc
  rw [c_Mo_here, d1]
  by_cases h : tb T L a < L
  · have e := r3 _ r4 h
    rw [if_pos h]
    simp (disch := omega) only [b_Mo_here_38, b_Mo_here_49, b_Mo_here_62, mo0, mr0, mr1, mr2, mr3, mr4, mr5, mr6, mr7, mr8, mr9, mr10, mr11, mk0, mk1, mk2, mk3, mk4, mk5, mk6, mk7, mk8, mk9, mk10, mk11, r1, r2, e, am_ck_T, am_ck_t, am_cif_t, am_cif_f, am_cif_T, am_cif_F, am_then_s, am_push_s, am_push_n, true_and, and_true, true_or, or_true, Int.cast_ofNat_Int, am_02, am_22, not_true_eq_false, not_false_eq_true]
  · rw [if_neg h]
    simp (disch := omega) only [b_Mo_here_38, b_Mo_here_61, b_Mo_here_62, mo0, mr0, mr1, mr2, mr3, mr4, mr5, mr6, mr7, mr8, mr9, mr10, mr11, mk0, mk1, mk2, mk3, mk4, mk5, mk6, mk7, mk8, mk9, mk10, mk11, r1, r2, am_ck_T, am_ck_t, am_cif_t, am_cif_f, am_cif_T, am_cif_F, am_then_s, am_push_s, am_push_n, true_and, and_true, true_or, or_true, Int.cast_ofNat_Int, am_02, am_22, not_true_eq_false, not_false_eq_true]
theorem m_wantF (hS : ly S) {k p v n w : Int} (g : mV T L k p M) (hv : am_Ri v) : am_call 110 [am_r 164, am_i v, am_i n, am_i w] S M = some (some (am_i 0), S, M) := by
  obtain ⟨mo0, ⟨mr0, mr1, mr2, mr3, mr4, mr5, mr6, mr7, mr8, mr9, mr10, mr11⟩, mk0, mk1, mk2, mk3, mk4, mk5, mk6, mk7, mk8, mk9, mk10, mk11⟩ := hS.2.2.2.2.2.2.2.2.2.2
  obtain ⟨_, e1, e2, e3, e4⟩ := g
  by_cases h : v = 0
  · simp (disch := omega) only [c_Mo_want, b_Mo_want_0, b_Mo_want_4, b_Mo_want_21, b_Mo_want_32, b_Mo_want_33, mo0, mr0, mr1, mr2, mr3, mr4, mr5, mr6, mr7, mr8, mr9, mr10, mr11, mk0, mk1, mk2, mk3, mk4, mk5, mk6, mk7, mk8, mk9, mk10, mk11, e1, am_ck_T, am_ck_t, am_cif_t, am_cif_f, am_cif_T, am_cif_F, am_then_s, am_push_s, am_push_n, true_and, and_true, true_or, or_true, Int.cast_ofNat_Int, am_02, am_22, not_true_eq_false, not_false_eq_true]
  · simp (disch := omega) only [c_Mo_want, b_Mo_want_0, b_Mo_want_21, b_Mo_want_32, b_Mo_want_33, mo0, mr0, mr1, mr2, mr3, mr4, mr5, mr6, mr7, mr8, mr9, mr10, mr11, mk0, mk1, mk2, mk3, mk4, mk5, mk6, mk7, mk8, mk9, mk10, mk11, e1, am_ck_T, am_ck_t, am_cif_t, am_cif_f, am_cif_T, am_cif_F, am_then_s, am_push_s, am_push_n, true_and, and_true, true_or, or_true, Int.cast_ofNat_Int, am_02, am_22, not_true_eq_false, not_false_eq_true]
theorem m_want1 (hS : ly S) {n w : Int} (e1 : M 164 14 = 0) : am_call 110 [am_r 164, am_i 1, am_i n, am_i w] S M = some (some (am_i 1), S, M) := by
  obtain ⟨mo0, ⟨mr0, mr1, mr2, mr3, mr4, mr5, mr6, mr7, mr8, mr9, mr10, mr11⟩, mk0, mk1, mk2, mk3, mk4, mk5, mk6, mk7, mk8, mk9, mk10, mk11⟩ := hS.2.2.2.2.2.2.2.2.2.2
  simp (disch := omega) only [c_Mo_want, b_Mo_want_0, b_Mo_want_21, b_Mo_want_28, b_Mo_want_33, mo0, mr0, mr1, mr2, mr3, mr4, mr5, mr6, mr7, mr8, mr9, mr10, mr11, mk0, mk1, mk2, mk3, mk4, mk5, mk6, mk7, mk8, mk9, mk10, mk11, e1, am_ck_T, am_ck_t, am_cif_t, am_cif_f, am_cif_T, am_cif_F, am_then_s, am_push_s, am_push_n, true_and, and_true, true_or, or_true, Int.cast_ofNat_Int, am_02, am_22, not_true_eq_false, not_false_eq_true]
theorem m_want0 (hS : ly S) {n w : Int} (e1 : M 164 14 = 0) (n1 : 1 ≤ n) (n2 : n ≤ 4) : am_call 110 [am_r 164, am_i 0, am_i n, am_i w] S M = some (some (am_i 0), S, am_wr (am_wr M 164 14 n) 164 15 w) := by
  obtain ⟨mo0, ⟨mr0, mr1, mr2, mr3, mr4, mr5, mr6, mr7, mr8, mr9, mr10, mr11⟩, mk0, mk1, mk2, mk3, mk4, mk5, mk6, mk7, mk8, mk9, mk10, mk11⟩ := hS.2.2.2.2.2.2.2.2.2.2
  have e2 : am_wr (am_wr M 164 14 n) 164 15 w 164 14 = n := (am_wr_i (by omega)).trans am_wr_s
  simp (disch := omega) only [c_Mo_want, b_Mo_want_0, b_Mo_want_4, b_Mo_want_11, b_Mo_want_21, b_Mo_want_32, b_Mo_want_33, mo0, mr0, mr1, mr2, mr3, mr4, mr5, mr6, mr7, mr8, mr9, mr10, mr11, mk0, mk1, mk2, mk3, mk4, mk5, mk6, mk7, mk8, mk9, mk10, mk11, e1, e2, am_ck_T, am_ck_t, am_cif_t, am_cif_f, am_cif_T, am_cif_F, am_then_s, am_push_s, am_push_n, true_and, and_true, true_or, or_true, Int.cast_ofNat_Int, am_02, am_22, not_true_eq_false, not_false_eq_true]
theorem mV_mark {n w : Int} (r : md T L a M) (n1 : 1 ≤ n) (n2 : n ≤ 4) : mV T L n w (am_wr (am_wr M 164 14 n) 164 15 w) :=
  ⟨⟨a, md_j (md_j r (by omega) (by omega)) (by omega) (by omega)⟩, (am_wr_i (by omega)).trans am_wr_s, am_wr_s, n1, n2⟩
theorem m_figs (hS : ly S) (hT : hTL T L) {w : Int} (c : Int) (w0 : 0 ≤ w) : ∀ (n : Nat) (i v : Int) (M : am_M), mg T L i M → M 164 13 = w → i + n = L → w ≤ i → (∀ j, w ≤ j → j < i → 48 ≤ T j ∧ T j ≤ 57) → (i - w ≤ 3 → v = tv T (i - w).toNat w 0) → 0 ≤ v → v ≤ 999999 → ∃ M1 v1, am_R 111 49 [some (am_r 164), some (am_i c), some (am_i v), none] [] S M = am_R 111 123 [some (am_r 164), some (am_i c), some (am_i v1), none] [] S M1 ∧ mg T L (te T L i) M1 ∧ M1 164 13 = w ∧ gp M M1 ∧ (te T L i - w ≤ 3 → v1 = tv T (te T L i - w).toNat w 0) ∧ 0 ≤ v1 ∧ v1 ≤ 999999 := by
  obtain ⟨mo0, ⟨mr0, mr1, mr2, mr3, mr4, mr5, mr6, mr7, mr8, mr9, mr10, mr11⟩, mk0, mk1, mk2, mk3, mk4, mk5, mk6, mk7, mk8, mk9, mk10, mk11⟩ := hS.2.2.2.2.2.2.2.2.2.2
  have t2 := hT.2
  intro n
  induction n with
  | zero =>
    intro i v M g hw hn wi hf hv v0 v9
    have ee : te T L i = i := te_e (fun z => by omega)
    refine ⟨M, v, ?_, by rw [ee]; exact g, hw, gp_rf, by rw [ee]; exact hv, v0, v9⟩
    obtain ⟨r1, r2, r3, r4, r5⟩ := g.1
    rw [b_Mo_takeNumber_49]
    simp (disch := omega) only [mo0, mr0, mr1, mr2, mr3, mr4, mr5, mr6, mr7, mr8, mr9, mr10, mr11, mk0, mk1, mk2, mk3, mk4, mk5, mk6, mk7, mk8, mk9, mk10, mk11, r1, r2, am_ck_T, am_ck_t, am_cif_t, am_cif_f, am_cif_T, am_cif_F, am_then_s, am_push_s, am_push_n, true_and, and_true, true_or, or_true, Int.cast_ofNat_Int, am_02, am_22, not_true_eq_false, not_false_eq_true]
  | succ n ih =>
    intro i v M g hw hn wi hf hv v0 v9
    have t1 := hT.1 i
    have rr := g.1
    obtain ⟨r1, r2, r3, r4, r5⟩ := g.1
    have e := r3 i r4 (by omega)
    have e1 := m_in (S := S) (M := M) (v := T i) (lo := 48) (hi := 57) ⟨by omega, by omega⟩ ⟨by omega, by omega⟩ ⟨by omega, by omega⟩
    by_cases h : 48 ≤ T i ∧ T i ≤ 57
    · rw [bo_t h] at e1
      have es := te_s (L := L) (show i < L by omega) h
      have g1 : mg T L (i + 1) (am_wr M 164 12 (i + 1)) := mg_12 g g12_wr (md_set rr (by omega) (by omega))
      have hw1 : am_wr M 164 12 (i + 1) 164 13 = w := (am_wr_i (by omega)).trans hw
      have hf1 : ∀ j, w ≤ j → j < i + 1 → 48 ≤ T j ∧ T j ≤ 57 := fun j j1 j2 => by
        by_cases ej : j = i
        · rw [ej]; exact h
        · exact hf j j1 (by omega)
      have ev : i + 1 - w ≤ 3 → 10 * v + T i - 48 = tv T (i + 1 - w).toNat w 0 := by
        intro z
        rw [show (i + 1 - w).toNat = (i - w).toNat + 1 by omega, tv_end, ← hv (by omega), show w + ((i - w).toNat : Int) = i by omega]
      have rv0 : i - w ≤ 3 → v ≤ 999 := by
        intro z
        rw [hv z]
        exact (tv_rng (T := T) (i - w).toNat w (fun j j1 j2 => hf j j1 (by omega)) (by omega)).2
      by_cases h9 : v ≤ 99999
      · obtain ⟨M1, v1, d1, d2, d3, d4, d5, d6⟩ := ih (i + 1) (10 * v + T i - 48) _ g1 hw1 (by omega) (by omega) hf1 ev (by omega) (by omega)
        refine ⟨M1, v1, ?_, by rw [es]; exact d2, d3, gp_tr (g12_gp g12_wr) d4, by rw [es]; exact d5, d6⟩
        rw [b_Mo_takeNumber_49]
        simp (disch := omega) only [b_Mo_takeNumber_60, b_Mo_takeNumber_79, b_Mo_takeNumber_82, b_Mo_takeNumber_92, b_Mo_takeNumber_109, mo0, mr0, mr1, mr2, mr3, mr4, mr5, mr6, mr7, mr8, mr9, mr10, mr11, mk0, mk1, mk2, mk3, mk4, mk5, mk6, mk7, mk8, mk9, mk10, mk11, r1, r2, e, e1, d1, am_ck_T, am_ck_t, am_cif_t, am_cif_f, am_cif_T, am_cif_F, am_then_s, am_push_s, am_push_n, true_and, and_true, true_or, or_true, Int.cast_ofNat_Int, am_02, am_22, not_true_eq_false, not_false_eq_true]
      · obtain ⟨M1, v1, d1, d2, d3, d4, d5, d6⟩ := ih (i + 1) v _ g1 hw1 (by omega) (by omega) hf1 (fun z => by have := rv0 (by omega); omega) (by omega) (by omega)
        refine ⟨M1, v1, ?_, by rw [es]; exact d2, d3, gp_tr (g12_gp g12_wr) d4, by rw [es]; exact d5, d6⟩
        rw [b_Mo_takeNumber_49]
        simp (disch := omega) only [b_Mo_takeNumber_60, b_Mo_takeNumber_79, b_Mo_takeNumber_82, b_Mo_takeNumber_88, b_Mo_takeNumber_109, mo0, mr0, mr1, mr2, mr3, mr4, mr5, mr6, mr7, mr8, mr9, mr10, mr11, mk0, mk1, mk2, mk3, mk4, mk5, mk6, mk7, mk8, mk9, mk10, mk11, r1, r2, e, e1, d1, am_ck_T, am_ck_t, am_cif_t, am_cif_f, am_cif_T, am_cif_F, am_then_s, am_push_s, am_push_n, true_and, and_true, true_or, or_true, Int.cast_ofNat_Int, am_02, am_22, not_true_eq_false, not_false_eq_true]
    · rw [bo_f h] at e1
      have ee : te T L i = i := te_e (fun _ => h)
      refine ⟨M, v, ?_, by rw [ee]; exact g, hw, gp_rf, by rw [ee]; exact hv, v0, v9⟩
      rw [b_Mo_takeNumber_49]
      simp (disch := omega) only [b_Mo_takeNumber_60, b_Mo_takeNumber_79, mo0, mr0, mr1, mr2, mr3, mr4, mr5, mr6, mr7, mr8, mr9, mr10, mr11, mk0, mk1, mk2, mk3, mk4, mk5, mk6, mk7, mk8, mk9, mk10, mk11, r1, r2, e, e1, am_ck_T, am_ck_t, am_cif_t, am_cif_f, am_cif_T, am_cif_F, am_then_s, am_push_s, am_push_n, true_and, and_true, true_or, or_true, Int.cast_ofNat_Int, am_02, am_22, not_true_eq_false, not_false_eq_true]
theorem m_inF (hS : ly S) {k p m : Int} (g : mV T L k p M) : am_call 112 [am_r 164, am_i 0, am_i m] S M = some (some (am_i 0), S, M) := by
  obtain ⟨mo0, ⟨mr0, mr1, mr2, mr3, mr4, mr5, mr6, mr7, mr8, mr9, mr10, mr11⟩, mk0, mk1, mk2, mk3, mk4, mk5, mk6, mk7, mk8, mk9, mk10, mk11⟩ := hS.2.2.2.2.2.2.2.2.2.2
  have w1 := m_wantF (n := 2) (w := M 164 13) hS g (show am_Ri 1 from ⟨by omega, by omega⟩)
  obtain ⟨_, e1, e2, e3, e4⟩ := g
  simp (disch := omega) only [c_Mo_takeIn, b_Mo_takeIn_0, c_Mo_takeNumber, b_Mo_takeNumber_0, b_Mo_takeNumber_7, b_Mo_takeIn_4, b_Mo_takeIn_25, b_Mo_takeIn_30, b_Mo_takeIn_38, b_Mo_takeIn_47, b_Mo_takeIn_52, mo0, mr0, mr1, mr2, mr3, mr4, mr5, mr6, mr7, mr8, mr9, mr10, mr11, mk0, mk1, mk2, mk3, mk4, mk5, mk6, mk7, mk8, mk9, mk10, mk11, e1, w1, am_ck_T, am_ck_t, am_cif_t, am_cif_f, am_cif_T, am_cif_F, am_then_s, am_push_s, am_push_n, true_and, and_true, true_or, or_true, Int.cast_ofNat_Int, am_02, am_22, not_true_eq_false, not_false_eq_true]
theorem m_takeIn (hS : ly S) (hT : hTL T L) (g : mg T L a M) {m : Int} (hm : am_Ri m) : ∃ M1 v, am_call 112 [am_r 164, am_i 0, am_i m] S M = some (some (am_i v), S, M1) ∧ gp M M1 ∧ (tn T L (tb T L a) m = 0 → v = tw T L (tb T L a) ∧ mg T L (te T L (tb T L a)) M1 ∧ M1 164 13 = tb T L a) ∧ (tn T L (tb T L a) m ≠ 0 → v = 0 ∧ mV T L (tn T L (tb T L a) m) (tb T L a) M1) := by
  obtain ⟨mo0, ⟨mr0, mr1, mr2, mr3, mr4, mr5, mr6, mr7, mr8, mr9, mr10, mr11⟩, mk0, mk1, mk2, mk3, mk4, mk5, mk6, mk7, mk8, mk9, mk10, mk11⟩ := hS.2.2.2.2.2.2.2.2.2.2
  have t2 := hT.2
  obtain ⟨Ma, a1, a2, a3⟩ := m_here hS hT g.1
  have ga := mg_12 g a3 a2
  have ra := ga.1.2.2.2
  have cr := tc_rng hT (tb T L a)
  have g1 : mg T L (tb T L a) (am_wr Ma 164 13 (tb T L a)) := ⟨md_j ga.1 (by omega) (by omega), (am_wr_i (by omega)).trans ga.2.1, (am_wr_i (by omega)).trans ga.2.2⟩
  have p12 := ga.1.2.1
  have q14 := g.2.1
  have e1 := m_in (S := S) (M := am_wr Ma 164 13 (tb T L a)) (v := tc T L (tb T L a)) (lo := 48) (hi := 57) ⟨by omega, by omega⟩ ⟨by omega, by omega⟩ ⟨by omega, by omega⟩
  have w12 : am_wr Ma 164 13 (tb T L a) 164 12 = tb T L a := g1.1.2.1
  have w13 : am_wr Ma 164 13 (tb T L a) 164 13 = tb T L a := am_wr_s
  have w14 := g1.2.1
  have gpa : gp M (am_wr Ma 164 13 (tb T L a)) := gp_tr (g12_gp a3) (gp_wr (by omega))
  generalize hj : tb T L a = j at *
  by_cases hf : 48 ≤ tc T L j ∧ tc T L j ≤ 57
  · rw [bo_t hf] at e1
    have hjL : j < L := Classical.byContradiction (fun z => by unfold tc at hf; rw [if_neg z] at hf; omega)
    have hfg : 48 ≤ T j ∧ T j ≤ 57 := by unfold tc at hf; rw [if_pos hjL] at hf; exact hf
    have y1 := m_want1 (n := 1) (w := j) hS w14
    obtain ⟨Mb, v, d1, d2, d3, d4, d5, d6, d7⟩ := m_figs hS hT (w := j) (tc T L j) ra.1 (L - j).toNat j 0 _ g1 w13 (by omega) (by omega) (fun i i1 i2 => by omega) (fun _ => by rw [show (j - j).toNat = 0 by omega]; rfl) (by omega) (by omega)
    have re := te_rng (T := T) ra.2
    have rne : te T L j ≠ j := by
      have := te_s hjL hfg
      have := te_rng (T := T) (show j + 1 ≤ L by omega)
      omega
    obtain ⟨b11, b12, _, b4, b5⟩ := d2.1
    have gpb := gp_tr gpa d4
    have z14 := d2.2.1
    by_cases h3 : te T L j - j ≤ 3
    · have ev : v = tw T L j := d5 h3
      have y2 := m_want1 (n := 2) (w := j) hS z14
      have rv := tw_rng ra.2 h3
      have en : am_call 111 [am_r 164] S M = some (some (am_i v), S, Mb) := by
        simp (disch := omega) only [c_Mo_takeNumber, b_Mo_takeNumber_0, b_Mo_takeNumber_9, b_Mo_takeNumber_13, b_Mo_takeNumber_34, b_Mo_takeNumber_42, b_Mo_takeNumber_47, mo0, mr0, mr1, mr2, mr3, mr4, mr5, mr6, mr7, mr8, mr9, mr10, mr11, mk0, mk1, mk2, mk3, mk4, mk5, mk6, mk7, mk8, mk9, mk10, mk11, q14, a1, p12, e1, w12, y1, d1, b_Mo_takeNumber_123, b_Mo_takeNumber_137, b_Mo_takeNumber_142, b_Mo_takeNumber_150, b12, d3, y2, am_ck_T, am_ck_t, am_cif_t, am_cif_f, am_cif_T, am_cif_F, am_then_s, am_push_s, am_push_n, true_and, and_true, true_or, or_true, Int.cast_ofNat_Int, am_02, am_22, not_true_eq_false, not_false_eq_true]
      have e3 := m_in (S := S) (M := Mb) (v := v) (lo := 0) (hi := m) ⟨by omega, by omega⟩ ⟨by omega, by omega⟩ ⟨by omega, by omega⟩
      by_cases hm2 : tw T L j ≤ m
      · have t0 : tn T L j m = 0 := by unfold tn; rw [if_neg rne, if_neg (by omega)]
        rw [bo_t (show 0 ≤ v ∧ v ≤ m by omega)] at e3
        refine ⟨Mb, v, ?_, gpb, fun _ => ⟨ev, d2, d3⟩, fun z => absurd t0 z⟩
        simp (disch := omega) only [c_Mo_takeIn, b_Mo_takeIn_0, b_Mo_takeIn_4, b_Mo_takeIn_13, b_Mo_takeIn_22, b_Mo_takeIn_25, b_Mo_takeIn_30, b_Mo_takeIn_38, b_Mo_takeIn_51, b_Mo_takeIn_52, mo0, mr0, mr1, mr2, mr3, mr4, mr5, mr6, mr7, mr8, mr9, mr10, mr11, mk0, mk1, mk2, mk3, mk4, mk5, mk6, mk7, mk8, mk9, mk10, mk11, en, z14, e3, d3, y2, am_ck_T, am_ck_t, am_cif_t, am_cif_f, am_cif_T, am_cif_F, am_then_s, am_push_s, am_push_n, true_and, and_true, true_or, or_true, Int.cast_ofNat_Int, am_02, am_22, not_true_eq_false, not_false_eq_true]
      · have t0 : tn T L j m = 2 := by unfold tn; rw [if_neg rne, if_pos (by omega)]
        rw [bo_f (show ¬ (0 ≤ v ∧ v ≤ m) by omega)] at e3
        have y3 := m_want0 (n := 2) (w := j) hS z14 (by omega) (by omega)
        have e5 : am_wr (am_wr Mb 164 14 2) 164 15 j 164 14 = 2 := (am_wr_i (by omega)).trans am_wr_s
        refine ⟨am_wr (am_wr Mb 164 14 2) 164 15 j, 0, ?_, gp_tr gpb (gp_tr (gp_wr (by omega)) (gp_wr (by omega))), fun z => by omega, fun _ => ⟨rfl, by rw [t0]; exact mV_mark d2.1 (by omega) (by omega)⟩⟩
        simp (disch := omega) only [c_Mo_takeIn, b_Mo_takeIn_0, b_Mo_takeIn_4, b_Mo_takeIn_13, b_Mo_takeIn_22, b_Mo_takeIn_29, b_Mo_takeIn_30, b_Mo_takeIn_38, b_Mo_takeIn_47, b_Mo_takeIn_52, mo0, mr0, mr1, mr2, mr3, mr4, mr5, mr6, mr7, mr8, mr9, mr10, mr11, mk0, mk1, mk2, mk3, mk4, mk5, mk6, mk7, mk8, mk9, mk10, mk11, en, z14, e3, d3, y3, e5, am_ck_T, am_ck_t, am_cif_t, am_cif_f, am_cif_T, am_cif_F, am_then_s, am_push_s, am_push_n, true_and, and_true, true_or, or_true, Int.cast_ofNat_Int, am_02, am_22, not_true_eq_false, not_false_eq_true]
    · have t0 : tn T L j m = 2 := by unfold tn; rw [if_neg rne, if_pos (by omega)]
      have y3 := m_want0 (n := 2) (w := j) hS z14 (by omega) (by omega)
      have gv : mV T L 2 j (am_wr (am_wr Mb 164 14 2) 164 15 j) := mV_mark d2.1 (by omega) (by omega)
      have e5 : am_wr (am_wr Mb 164 14 2) 164 15 j 164 14 = 2 := (am_wr_i (by omega)).trans am_wr_s
      have e6 : am_wr (am_wr Mb 164 14 2) 164 15 j 164 13 = j := (am_wr_i (by omega)).trans ((am_wr_i (by omega)).trans d3)
      have y4 := m_wantF (n := 2) (w := j) hS gv (show am_Ri 1 from ⟨by omega, by omega⟩)
      have en : am_call 111 [am_r 164] S M = some (some (am_i v), S, am_wr (am_wr Mb 164 14 2) 164 15 j) := by
        simp (disch := omega) only [c_Mo_takeNumber, b_Mo_takeNumber_0, b_Mo_takeNumber_9, b_Mo_takeNumber_13, b_Mo_takeNumber_34, b_Mo_takeNumber_42, b_Mo_takeNumber_47, mo0, mr0, mr1, mr2, mr3, mr4, mr5, mr6, mr7, mr8, mr9, mr10, mr11, mk0, mk1, mk2, mk3, mk4, mk5, mk6, mk7, mk8, mk9, mk10, mk11, q14, a1, p12, e1, w12, y1, d1, b_Mo_takeNumber_123, b_Mo_takeNumber_141, b_Mo_takeNumber_142, b_Mo_takeNumber_150, b12, d3, y3, am_ck_T, am_ck_t, am_cif_t, am_cif_f, am_cif_T, am_cif_F, am_then_s, am_push_s, am_push_n, true_and, and_true, true_or, or_true, Int.cast_ofNat_Int, am_02, am_22, not_true_eq_false, not_false_eq_true]
      refine ⟨am_wr (am_wr Mb 164 14 2) 164 15 j, 0, ?_, gp_tr gpb (gp_tr (gp_wr (by omega)) (gp_wr (by omega))), fun z => by omega, fun _ => ⟨rfl, by rw [t0]; exact gv⟩⟩
      simp (disch := omega) only [c_Mo_takeIn, b_Mo_takeIn_0, b_Mo_takeIn_4, b_Mo_takeIn_25, b_Mo_takeIn_30, b_Mo_takeIn_38, b_Mo_takeIn_47, b_Mo_takeIn_52, mo0, mr0, mr1, mr2, mr3, mr4, mr5, mr6, mr7, mr8, mr9, mr10, mr11, mk0, mk1, mk2, mk3, mk4, mk5, mk6, mk7, mk8, mk9, mk10, mk11, en, e5, e6, y4, am_ck_T, am_ck_t, am_cif_t, am_cif_f, am_cif_T, am_cif_F, am_then_s, am_push_s, am_push_n, true_and, and_true, true_or, or_true, Int.cast_ofNat_Int, am_02, am_22, not_true_eq_false, not_false_eq_true]
  · rw [bo_f hf] at e1
    have ee : te T L j = j := te_e (fun z => by unfold tc at hf; rw [if_pos z] at hf; exact hf)
    have t0 : tn T L j m = 1 := by unfold tn; rw [if_pos ee]
    have y3 := m_want0 (n := 1) (w := j) hS w14 (by omega) (by omega)
    have gv : mV T L 1 j (am_wr (am_wr (am_wr Ma 164 13 j) 164 14 1) 164 15 j) := mV_mark g1.1 (by omega) (by omega)
    have e5 : am_wr (am_wr (am_wr Ma 164 13 j) 164 14 1) 164 15 j 164 14 = 1 := (am_wr_i (by omega)).trans am_wr_s
    have e6 : am_wr (am_wr (am_wr Ma 164 13 j) 164 14 1) 164 15 j 164 13 = j := (am_wr_i (by omega)).trans ((am_wr_i (by omega)).trans am_wr_s)
    have y4 := m_wantF (n := 2) (w := j) hS gv (show am_Ri 1 from ⟨by omega, by omega⟩)
    have en : am_call 111 [am_r 164] S M = some (some (am_i 0), S, am_wr (am_wr (am_wr Ma 164 13 j) 164 14 1) 164 15 j) := by
      simp (disch := omega) only [c_Mo_takeNumber, b_Mo_takeNumber_0, b_Mo_takeNumber_9, b_Mo_takeNumber_13, b_Mo_takeNumber_34, b_Mo_takeNumber_42, b_Mo_takeNumber_45, mo0, mr0, mr1, mr2, mr3, mr4, mr5, mr6, mr7, mr8, mr9, mr10, mr11, mk0, mk1, mk2, mk3, mk4, mk5, mk6, mk7, mk8, mk9, mk10, mk11, q14, a1, p12, e1, w12, y3, am_ck_T, am_ck_t, am_cif_t, am_cif_f, am_cif_T, am_cif_F, am_then_s, am_push_s, am_push_n, true_and, and_true, true_or, or_true, Int.cast_ofNat_Int, am_02, am_22, not_true_eq_false, not_false_eq_true]
    refine ⟨am_wr (am_wr (am_wr Ma 164 13 j) 164 14 1) 164 15 j, 0, ?_, gp_tr gpa (gp_tr (gp_wr (by omega)) (gp_wr (by omega))), fun z => by omega, fun _ => ⟨rfl, by rw [t0]; exact gv⟩⟩
    simp (disch := omega) only [c_Mo_takeIn, b_Mo_takeIn_0, b_Mo_takeIn_4, b_Mo_takeIn_25, b_Mo_takeIn_30, b_Mo_takeIn_38, b_Mo_takeIn_47, b_Mo_takeIn_52, mo0, mr0, mr1, mr2, mr3, mr4, mr5, mr6, mr7, mr8, mr9, mr10, mr11, mk0, mk1, mk2, mk3, mk4, mk5, mk6, mk7, mk8, mk9, mk10, mk11, en, e5, e6, y4, am_ck_T, am_ck_t, am_cif_t, am_cif_f, am_cif_T, am_cif_F, am_then_s, am_push_s, am_push_n, true_and, and_true, true_or, or_true, Int.cast_ofNat_Int, am_02, am_22, not_true_eq_false, not_false_eq_true]
theorem m_commaF (hS : ly S) {k p : Int} (g : mV T L k p M) : am_call 113 [am_r 164] S M = some (none, S, M) := by
  obtain ⟨mo0, ⟨mr0, mr1, mr2, mr3, mr4, mr5, mr6, mr7, mr8, mr9, mr10, mr11⟩, mk0, mk1, mk2, mk3, mk4, mk5, mk6, mk7, mk8, mk9, mk10, mk11⟩ := hS.2.2.2.2.2.2.2.2.2.2
  have w1 := m_wantF (n := 1) (w := M 164 12) hS g (show am_Ri 1 from ⟨by omega, by omega⟩)
  obtain ⟨_, e1, e2, e3, e4⟩ := g
  simp (disch := omega) only [c_Mo_comma, b_Mo_comma_0, b_Mo_comma_17, b_Mo_comma_22, b_Mo_comma_30, b_Mo_comma_43, mo0, mr0, mr1, mr2, mr3, mr4, mr5, mr6, mr7, mr8, mr9, mr10, mr11, mk0, mk1, mk2, mk3, mk4, mk5, mk6, mk7, mk8, mk9, mk10, mk11, e1, w1, am_ck_T, am_ck_t, am_cif_t, am_cif_f, am_cif_T, am_cif_F, am_then_s, am_push_s, am_push_n, true_and, and_true, true_or, or_true, Int.cast_ofNat_Int, am_02, am_22, not_true_eq_false, not_false_eq_true]
theorem m_comma (hS : ly S) (hT : hTL T L) (g : mg T L a M) : ∃ M1, am_call 113 [am_r 164] S M = some (none, S, M1) ∧ gp M M1 ∧ ((tb T L a < L ∧ T (tb T L a) = 44) → mg T L (tb T L a + 1) M1) ∧ (¬ (tb T L a < L ∧ T (tb T L a) = 44) → mV T L 1 (tb T L a) M1) := by
  obtain ⟨mo0, ⟨mr0, mr1, mr2, mr3, mr4, mr5, mr6, mr7, mr8, mr9, mr10, mr11⟩, mk0, mk1, mk2, mk3, mk4, mk5, mk6, mk7, mk8, mk9, mk10, mk11⟩ := hS.2.2.2.2.2.2.2.2.2.2
  have t2 := hT.2
  obtain ⟨Ma, a1, a2, a3⟩ := m_here hS hT g.1
  have ga := mg_12 g a3 a2
  have q14 := g.2.1
  have z14 := ga.2.1
  have p12 := ga.1.2.1
  have cr := tc_rng hT (tb T L a)
  have ci := tc_c (T := T) (L := L) (i := tb T L a) (c := 44) (by omega)
  by_cases h : tb T L a < L ∧ T (tb T L a) = 44
  · have hc := ci.mpr h
    have y1 := m_want1 (n := 1) (w := tb T L a) hS z14
    refine ⟨am_wr Ma 164 12 (tb T L a + 1), ?_, gp_tr (g12_gp a3) (gp_wr (by omega)), fun _ => mg_12 ga g12_wr (md_set ga.1 (by have := ga.1.2.2.2; omega) (by omega)), fun z => absurd h z⟩
    simp (disch := omega) only [c_Mo_comma, b_Mo_comma_0, b_Mo_comma_8, b_Mo_comma_12, b_Mo_comma_17, b_Mo_comma_22, b_Mo_comma_30, b_Mo_comma_33, b_Mo_comma_43, mo0, mr0, mr1, mr2, mr3, mr4, mr5, mr6, mr7, mr8, mr9, mr10, mr11, mk0, mk1, mk2, mk3, mk4, mk5, mk6, mk7, mk8, mk9, mk10, mk11, q14, a1, p12, y1, am_ck_T, am_ck_t, am_cif_t, am_cif_f, am_cif_T, am_cif_F, am_then_s, am_push_s, am_push_n, true_and, and_true, true_or, or_true, Int.cast_ofNat_Int, am_02, am_22, not_true_eq_false, not_false_eq_true]
  · have hc : ¬ tc T L (tb T L a) = 44 := fun z => h (ci.mp z)
    have y1 := m_want0 (n := 1) (w := tb T L a) hS z14 (by omega) (by omega)
    refine ⟨am_wr (am_wr Ma 164 14 1) 164 15 (tb T L a), ?_, gp_tr (g12_gp a3) (gp_tr (gp_wr (by omega)) (gp_wr (by omega))), fun z => absurd z h, fun _ => mV_mark ga.1 (by omega) (by omega)⟩
    simp (disch := omega) only [c_Mo_comma, b_Mo_comma_0, b_Mo_comma_8, b_Mo_comma_12, b_Mo_comma_21, b_Mo_comma_22, b_Mo_comma_30, b_Mo_comma_43, mo0, mr0, mr1, mr2, mr3, mr4, mr5, mr6, mr7, mr8, mr9, mr10, mr11, mk0, mk1, mk2, mk3, mk4, mk5, mk6, mk7, mk8, mk9, mk10, mk11, q14, a1, p12, y1, am_ck_T, am_ck_t, am_cif_t, am_cif_f, am_cif_T, am_cif_F, am_then_s, am_push_s, am_push_n, true_and, and_true, true_or, or_true, Int.cast_ofNat_Int, am_02, am_22, not_true_eq_false, not_false_eq_true]
end MREAD
