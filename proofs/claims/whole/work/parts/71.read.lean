/-! the class reads the text: words -/
def hTL (T : Int → Int) (L : Int) : Prop := (∀ j, 0 ≤ T j ∧ T j ≤ 255) ∧ 0 ≤ L ∧ L ≤ 200
def rd (T : Int → Int) (L i : Int) (M : am_M) : Prop := M 7 2 = L ∧ M 7 5 = i ∧ (∀ j, 0 ≤ j → j < L → M 13 j = T j) ∧ 0 ≤ i ∧ i ≤ L
/-- only the place changes -/
def f5 (M M1 : am_M) : Prop := fr 7 7 M M1 ∧ ∀ j, j ≠ 5 → M1 7 j = M 7 j
theorem f5_rf {M : am_M} : f5 M M := ⟨fr_rf, fun _ _ => rfl⟩
theorem f5_tr {M M1 M2 : am_M} (h1 : f5 M M1) (h2 : f5 M1 M2) : f5 M M2 := ⟨fr_tr h1.1 h2.1, fun j hj => (h2.2 j hj).trans (h1.2 j hj)⟩
theorem f5_wr {M : am_M} {v : Int} : f5 M (am_wr M 7 5 v) := ⟨fr_wr (by omega), fun j hj => am_wr_i hj⟩
section READ
variable {S : am_S} {M M1 : am_M} {T : Int → Int} {L i : Int}
theorem rd_set {j : Int} (r : rd T L i M) (h1 : 0 ≤ j) (h2 : j ≤ L) : rd T L j (am_wr M 7 5 j) :=
  ⟨(am_wr_i (by omega)).trans r.1, am_wr_s, fun k k1 k2 => (am_wr_k (by omega)).trans (r.2.2.1 k k1 k2), h1, h2⟩
theorem rd_j {j v : Int} (r : rd T L i M) (hj : j ≠ 2) (hj2 : j ≠ 5) : rd T L i (am_wr M 7 j v) :=
  ⟨(am_wr_i (by omega)).trans r.1, (am_wr_i (by omega)).trans r.2.1, fun k k1 k2 => (am_wr_k (by omega)).trans (r.2.2.1 k k1 k2), r.2.2.2⟩
theorem k_isNext (hS : ly S) (hT : hTL T L) (r : rd T L i M) {c : Int} (hc : am_Ri c) : am_call 40 [am_r 7, am_i c] S M = some (some (am_i (bo (i < L ∧ T i = c))), S, M) := by
  obtain ⟨re0, re1, re2, re3⟩ := hS.2.2.2.1
  obtain ⟨r1, r2, r3, r4, r5⟩ := r
  have t1 := hT.1 i
  have t2 := hT.2
  by_cases h : i < L
  · have e := r3 i r4 h
    by_cases h2 : T i = c
    · rw [bo_t ⟨h, h2⟩]
      simp (disch := omega) only [c_Re_isNext, b_Re_isNext_0, b_Re_isNext_11, b_Re_isNext_24, b_Re_isNext_28, b_Re_isNext_29, re0, re1, re2, re3, r1, r2, e, am_ck_T, am_ck_t, am_cif_t, am_cif_f, am_cif_T, am_cif_F, am_then_s, am_push_s, am_push_n, true_and, and_true, true_or, or_true, Int.cast_ofNat_Int, am_02, am_22, not_true_eq_false, not_false_eq_true]
    · rw [bo_f (fun z => h2 z.2)]
      simp (disch := omega) only [c_Re_isNext, b_Re_isNext_0, b_Re_isNext_11, b_Re_isNext_24, b_Re_isNext_28, b_Re_isNext_29, re0, re1, re2, re3, r1, r2, e, am_ck_T, am_ck_t, am_cif_t, am_cif_f, am_cif_T, am_cif_F, am_then_s, am_push_s, am_push_n, true_and, and_true, true_or, or_true, Int.cast_ofNat_Int, am_02, am_22, not_true_eq_false, not_false_eq_true]
  · rw [bo_f (fun z => h z.1)]
    simp (disch := omega) only [c_Re_isNext, b_Re_isNext_0, b_Re_isNext_11, b_Re_isNext_24, b_Re_isNext_28, b_Re_isNext_29, re0, re1, re2, re3, r1, r2, am_ck_T, am_ck_t, am_cif_t, am_cif_f, am_cif_T, am_cif_F, am_then_s, am_push_s, am_push_n, true_and, and_true, true_or, or_true, Int.cast_ofNat_Int, am_02, am_22, not_true_eq_false, not_false_eq_true]
theorem k_blanks (hS : ly S) (hT : hTL T L) : ∀ (n : Nat) (i : Int) (M : am_M), rd T L i M → i + n = L → ∃ M1, am_R 44 0 [some (am_r 7)] [] S M = some (none, S, M1) ∧ rd T L (tb T L i) M1 ∧ f5 M M1 := by
  obtain ⟨re0, re1, re2, re3⟩ := hS.2.2.2.1
  intro n
  induction n with
  | zero =>
    intro i M r hn
    have t2 := hT.2
    refine ⟨M, ?_, ?_, f5_rf⟩
    · obtain ⟨r1, r2, r3, r4, r5⟩ := r
      rw [b_Re_skipBlanks_0]
      simp (disch := omega) only [b_Re_skipBlanks_38, re0, re1, re2, re3, r1, r2, am_ck_T, am_ck_t, am_cif_t, am_cif_f, am_cif_T, am_cif_F, am_then_s, am_push_s, am_push_n, true_and, and_true, true_or, or_true, Int.cast_ofNat_Int, am_02, am_22, not_true_eq_false, not_false_eq_true]
    · rw [tb_e (fun z => by omega)]; exact r
  | succ n ih =>
    intro i M r hn
    have t1 := hT.1 i
    have t2 := hT.2
    have rr := r
    obtain ⟨r1, r2, r3, r4, r5⟩ := r
    have e := r3 i r4 (by omega)
    by_cases h : T i = 32
    · obtain ⟨M1, d1, d2, d3⟩ := ih (i + 1) (am_wr M 7 5 (i + 1)) (rd_set rr (by omega) (by omega)) (by omega)
      refine ⟨M1, ?_, ?_, f5_tr f5_wr d3⟩
      · rw [b_Re_skipBlanks_0]
        simp (disch := omega) only [b_Re_skipBlanks_11, b_Re_skipBlanks_25, re0, re1, re2, re3, r1, r2, e, d1, am_ck_T, am_ck_t, am_cif_t, am_cif_f, am_cif_T, am_cif_F, am_then_s, am_push_s, am_push_n, true_and, and_true, true_or, or_true, Int.cast_ofNat_Int, am_02, am_22, not_true_eq_false, not_false_eq_true]
      · rw [tb_s (by omega) h]; exact d2
    · refine ⟨M, ?_, ?_, f5_rf⟩
      · rw [b_Re_skipBlanks_0]
        simp (disch := omega) only [b_Re_skipBlanks_11, b_Re_skipBlanks_38, re0, re1, re2, re3, r1, r2, e, am_ck_T, am_ck_t, am_cif_t, am_cif_f, am_cif_T, am_cif_F, am_then_s, am_push_s, am_push_n, true_and, and_true, true_or, or_true, Int.cast_ofNat_Int, am_02, am_22, not_true_eq_false, not_false_eq_true]
      · rw [tb_e (fun _ => h)]; exact rr
theorem k_skip (hS : ly S) (hT : hTL T L) (r : rd T L i M) : ∃ M1, am_call 44 [am_r 7] S M = some (none, S, M1) ∧ rd T L (tb T L i) M1 ∧ f5 M M1 := by
  obtain ⟨M1, d1, d2, d3⟩ := k_blanks hS hT (L - i).toNat i M r (by have := r.2.2.2; omega)
  exact ⟨M1, by rw [c_Re_skipBlanks]; exact d1, d2, d3⟩
theorem k_mark (hS : ly S) (k p : Int) : am_call 45 [am_r 7, am_i k, am_i p] S M = some (none, S, am_wr (am_wr M 7 4 k) 7 3 p) := by
  obtain ⟨re0, re1, re2, re3⟩ := hS.2.2.2.1
  simp (disch := omega) only [c_Re_mark, b_Re_mark_0, re0, re1, re2, re3, am_ck_T, am_ck_t, am_cif_t, am_cif_f, am_cif_T, am_cif_F, am_then_s, am_push_s, am_push_n, true_and, and_true, true_or, or_true, Int.cast_ofNat_Int, am_02, am_22, not_true_eq_false, not_false_eq_true]
/-- a fault is marked -/
def cF (T : Int → Int) (L k p : Int) (M : am_M) : Prop := (∃ i, rd T L i M) ∧ M 7 4 = k ∧ M 7 3 = p
/-- none is -/
def cG (T : Int → Int) (L i : Int) (M : am_M) : Prop := rd T L i M ∧ M 7 4 = 0 ∧ M 7 3 = -1
theorem cF_mark {k p : Int} (r : rd T L i M) : cF T L k p (am_wr (am_wr M 7 4 k) 7 3 p) :=
  ⟨⟨i, rd_j (rd_j r (by omega) (by omega)) (by omega) (by omega)⟩, (am_wr_i (by omega)).trans am_wr_s, am_wr_s⟩
theorem cG_f5 {j : Int} (g : cG T L i M) (h : f5 M M1) (r : rd T L j M1) : cG T L j M1 := ⟨r, (h.2 4 (by omega)).trans g.2.1, (h.2 3 (by omega)).trans g.2.2⟩
theorem k_take (hS : ly S) (hT : hTL T L) (g : cG T L i M) {c : Int} (hc : am_Ri c) : ∃ M1, am_call 41 [am_r 7, am_i c] S M = some (some (am_i (bo (i < L ∧ T i = c))), S, M1) ∧ fr 7 7 M M1 ∧ ((i < L ∧ T i = c) → cG T L (tb T L (i + 1)) M1) ∧ (¬ (i < L ∧ T i = c) → cF T L 1 i M1) := by
  obtain ⟨re0, re1, re2, re3⟩ := hS.2.2.2.1
  have r := g.1
  have e1 := k_isNext hS hT r hc
  have t2 := hT.2
  have rr := r
  obtain ⟨r1, r2, r3, r4, r5⟩ := r
  by_cases h : i < L ∧ T i = c
  · rw [bo_t h] at e1 ⊢
    obtain ⟨M1, d1, d2, d3⟩ := k_skip hS hT (rd_set (j := i + 1) rr (by omega) (by omega))
    have d4 := f5_tr f5_wr d3
    refine ⟨M1, ?_, d4.1, fun _ => cG_f5 g d4 d2, fun z => absurd h z⟩
    simp (disch := omega) only [c_Re_take, b_Re_take_0, b_Re_take_5, b_Re_take_8, b_Re_take_17, b_Re_take_19, b_Re_take_33, re0, re1, re2, re3, e1, r2, d1, am_ck_T, am_ck_t, am_cif_t, am_cif_f, am_cif_T, am_cif_F, am_then_s, am_push_s, am_push_n, true_and, and_true, true_or, or_true, Int.cast_ofNat_Int, am_02, am_22, not_true_eq_false, not_false_eq_true]
  · rw [bo_f h] at e1 ⊢
    have e2 := k_mark (M := M) hS 1 i
    refine ⟨am_wr (am_wr M 7 4 1) 7 3 i, ?_, fr_tr (fr_wr (by omega)) (fr_wr (by omega)), fun z => absurd z h, fun _ => cF_mark rr⟩
    simp (disch := omega) only [c_Re_take, b_Re_take_0, b_Re_take_5, b_Re_take_8, b_Re_take_17, b_Re_take_19, b_Re_take_33, re0, re1, re2, re3, e1, r2, e2, am_ck_T, am_ck_t, am_cif_t, am_cif_f, am_cif_T, am_cif_F, am_then_s, am_push_s, am_push_n, true_and, and_true, true_or, or_true, Int.cast_ofNat_Int, am_02, am_22, not_true_eq_false, not_false_eq_true]
theorem k_fig (hS : ly S) {x : Int} (hx : am_Ri x) : am_call 43 [am_r 7, am_i x] S M = some (some (am_i (bo (48 ≤ x ∧ x ≤ 57))), S, M) := by
  obtain ⟨re0, re1, re2, re3⟩ := hS.2.2.2.1
  by_cases a : x < 48
  · rw [bo_f (by omega)]
    simp (disch := omega) only [c_Re_isFigure, b_Re_isFigure_0, b_Re_isFigure_6, b_Re_isFigure_12, b_Re_isFigure_16, b_Re_isFigure_17, re0, re1, re2, re3, am_ck_T, am_ck_t, am_cif_t, am_cif_f, am_cif_T, am_cif_F, am_then_s, am_push_s, am_push_n, true_and, and_true, true_or, or_true, Int.cast_ofNat_Int, am_02, am_22, not_true_eq_false, not_false_eq_true]
  · by_cases c : 57 < x
    · rw [bo_f (by omega)]
      simp (disch := omega) only [c_Re_isFigure, b_Re_isFigure_0, b_Re_isFigure_6, b_Re_isFigure_12, b_Re_isFigure_16, b_Re_isFigure_17, re0, re1, re2, re3, am_ck_T, am_ck_t, am_cif_t, am_cif_f, am_cif_T, am_cif_F, am_then_s, am_push_s, am_push_n, true_and, and_true, true_or, or_true, Int.cast_ofNat_Int, am_02, am_22, not_true_eq_false, not_false_eq_true]
    · rw [bo_t (by omega)]
      simp (disch := omega) only [c_Re_isFigure, b_Re_isFigure_0, b_Re_isFigure_6, b_Re_isFigure_12, b_Re_isFigure_16, b_Re_isFigure_17, re0, re1, re2, re3, am_ck_T, am_ck_t, am_cif_t, am_cif_f, am_cif_T, am_cif_F, am_then_s, am_push_s, am_push_n, true_and, and_true, true_or, or_true, Int.cast_ofNat_Int, am_02, am_22, not_true_eq_false, not_false_eq_true]
theorem k_figs (hS : ly S) (hT : hTL T L) {w : Int} (m : Int) (w0 : 0 ≤ w) : ∀ (n : Nat) (i v : Int) (M : am_M), cG T L i M → M 7 6 = w → i + n = L → w ≤ i → (∀ j, w ≤ j → j < i → 48 ≤ T j ∧ T j ≤ 57) → (i - w ≤ 3 → v = tv T (i - w).toNat w 0) → 0 ≤ v → v ≤ 999 → ∃ M1 v1, am_R 42 10 [some (am_r 7), some (am_i m), some (am_i v), none] [] S M = am_R 42 81 [some (am_r 7), some (am_i m), some (am_i v1), none] [] S M1 ∧ cG T L (te T L i) M1 ∧ M1 7 6 = w ∧ fr 7 7 M M1 ∧ (te T L i - w ≤ 3 → v1 = tv T (te T L i - w).toNat w 0) ∧ 0 ≤ v1 ∧ v1 ≤ 999 := by
  obtain ⟨re0, re1, re2, re3⟩ := hS.2.2.2.1
  intro n
  induction n with
  | zero =>
    intro i v M g hw hn wi hf hv v0 v9
    have t2 := hT.2
    have ee : te T L i = i := te_e (fun z => by omega)
    refine ⟨M, v, ?_, by rw [ee]; exact g, hw, fr_rf, by rw [ee]; exact hv, v0, v9⟩
    obtain ⟨r1, r2, r3, r4, r5⟩ := g.1
    rw [b_Re_takeNumber_10]
    simp (disch := omega) only [re0, re1, re2, re3, r1, r2, am_ck_T, am_ck_t, am_cif_t, am_cif_f, am_cif_T, am_cif_F, am_then_s, am_push_s, am_push_n, true_and, and_true, true_or, or_true, Int.cast_ofNat_Int, am_02, am_22, not_true_eq_false, not_false_eq_true]
  | succ n ih =>
    intro i v M g hw hn wi hf hv v0 v9
    have t1 := hT.1 i
    have t2 := hT.2
    have rr := g.1
    obtain ⟨r1, r2, r3, r4, r5⟩ := g.1
    have e := r3 i r4 (by omega)
    have e1 := k_fig (M := M) hS (show am_Ri (T i) from ⟨by omega, by omega⟩)
    by_cases h : 48 ≤ T i ∧ T i ≤ 57
    · rw [bo_t h] at e1
      have es := te_s (L := L) (show i < L by omega) h
      have g1 : cG T L (i + 1) (am_wr M 7 5 (i + 1)) := cG_f5 g f5_wr (rd_set rr (by omega) (by omega))
      have hw1 : am_wr M 7 5 (i + 1) 7 6 = w := (am_wr_i (by omega)).trans hw
      have hf1 : ∀ j, w ≤ j → j < i + 1 → 48 ≤ T j ∧ T j ≤ 57 := fun j j1 j2 => by
        by_cases ej : j = i
        · rw [ej]; exact h
        · exact hf j j1 (by omega)
      by_cases h3 : 3 ≤ i - w
      · obtain ⟨M1, v1, d1, d2, d3, d4, d5, d6⟩ := ih (i + 1) v _ g1 hw1 (by omega) (by omega) hf1 (fun z => by omega) v0 v9
        refine ⟨M1, v1, ?_, by rw [es]; exact d2, d3, fr_tr f5_wr.1 d4, by rw [es]; exact d5, d6⟩
        rw [b_Re_takeNumber_10]
        simp (disch := omega) only [b_Re_takeNumber_21, b_Re_takeNumber_34, b_Re_takeNumber_37, b_Re_takeNumber_68, re0, re1, re2, re3, r1, r2, hw, e, e1, d1, am_ck_T, am_ck_t, am_cif_t, am_cif_f, am_cif_T, am_cif_F, am_then_s, am_push_s, am_push_n, true_and, and_true, true_or, or_true, Int.cast_ofNat_Int, am_02, am_22, not_true_eq_false, not_false_eq_true]
      · have ev : v * 10 + T i - 48 = tv T (i + 1 - w).toNat w 0 := by
          rw [show (i + 1 - w).toNat = (i - w).toNat + 1 by omega, tv_end, ← hv (by omega), show w + ((i - w).toNat : Int) = i by omega]
          omega
        have rv := tv_rng (T := T) (i + 1 - w).toNat w (fun j j1 j2 => hf1 j j1 (by omega)) (by omega)
        obtain ⟨M1, v1, d1, d2, d3, d4, d5, d6⟩ := ih (i + 1) (v * 10 + T i - 48) _ g1 hw1 (by omega) (by omega) hf1 (fun z => ev) (by omega) (by omega)
        refine ⟨M1, v1, ?_, by rw [es]; exact d2, d3, fr_tr f5_wr.1 d4, by rw [es]; exact d5, d6⟩
        rw [b_Re_takeNumber_10]
        simp (disch := omega) only [b_Re_takeNumber_21, b_Re_takeNumber_34, b_Re_takeNumber_37, b_Re_takeNumber_50, b_Re_takeNumber_68, re0, re1, re2, re3, r1, r2, hw, e, e1, d1, am_ck_T, am_ck_t, am_cif_t, am_cif_f, am_cif_T, am_cif_F, am_then_s, am_push_s, am_push_n, true_and, and_true, true_or, or_true, Int.cast_ofNat_Int, am_02, am_22, not_true_eq_false, not_false_eq_true]
    · rw [bo_f h] at e1
      have ee : te T L i = i := te_e (fun _ => h)
      refine ⟨M, v, ?_, by rw [ee]; exact g, hw, fr_rf, by rw [ee]; exact hv, v0, v9⟩
      rw [b_Re_takeNumber_10]
      simp (disch := omega) only [b_Re_takeNumber_21, b_Re_takeNumber_34, re0, re1, re2, re3, r1, r2, e, e1, am_ck_T, am_ck_t, am_cif_t, am_cif_f, am_cif_T, am_cif_F, am_then_s, am_push_s, am_push_n, true_and, and_true, true_or, or_true, Int.cast_ofNat_Int, am_02, am_22, not_true_eq_false, not_false_eq_true]
theorem k_number (hS : ly S) (hT : hTL T L) (g : cG T L i M) {m : Int} (hm : am_Ri m) : ∃ M1 v, am_call 42 [am_r 7, am_i m] S M = some (some (am_i v), S, M1) ∧ fr 7 7 M M1 ∧ (tn T L i m = 0 → v = tw T L i ∧ cG T L (tb T L (te T L i)) M1 ∧ M1 7 6 = i) ∧ (tn T L i m ≠ 0 → v = -1 ∧ cF T L (tn T L i m) i M1) := by
  obtain ⟨re0, re1, re2, re3⟩ := hS.2.2.2.1
  have rr := g.1
  obtain ⟨r1, r2, r3, r4, r5⟩ := g.1
  have t2 := hT.2
  have g1 : cG T L i (am_wr M 7 6 i) := ⟨rd_j rr (by omega) (by omega), (am_wr_i (by omega)).trans g.2.1, (am_wr_i (by omega)).trans g.2.2⟩
  obtain ⟨M1, v, d1, d2, d3, d4, d5, d6, d7⟩ := k_figs hS hT (w := i) m r4 (L - i).toNat i 0 (am_wr M 7 6 i) g1 am_wr_s (by omega) (by omega) (fun j j1 j2 => by omega) (fun _ => by rw [show (i - i).toNat = 0 by omega]; rfl) (by omega) (by omega)
  have re := te_rng (T := T) r5
  obtain ⟨M2, f1, f2, f3⟩ := k_skip hS hT d2.1
  have g2 := cG_f5 d2 f3 f2
  have w1 : M1 7 5 = te T L i := d2.1.2.1
  have w2 : M2 7 6 = i := (f3.2 6 (by omega)).trans d3
  have fr0 : fr 7 7 M M2 := fr_tr (fr_tr (fr_wr (by omega)) d4) f3.1
  unfold tn
  by_cases h1 : te T L i = i
  · rw [if_pos h1]
    have e2 := k_mark (M := M2) hS 1 i
    refine ⟨am_wr (am_wr M2 7 4 1) 7 3 i, -1, ?_, fr_tr fr0 (fr_tr (fr_wr (by omega)) (fr_wr (by omega))), fun z => by omega, fun _ => ⟨rfl, cF_mark g2.1⟩⟩
    simp (disch := omega) only [c_Re_takeNumber, b_Re_takeNumber_0, r2, d1, b_Re_takeNumber_81, b_Re_takeNumber_95, b_Re_takeNumber_99, b_Re_takeNumber_108, re0, re1, re2, re3, w1, d3, f1, w2, e2, am_ck_T, am_ck_t, am_cif_t, am_cif_f, am_cif_T, am_cif_F, am_then_s, am_push_s, am_push_n, true_and, and_true, true_or, or_true, Int.cast_ofNat_Int, am_02, am_22, not_true_eq_false, not_false_eq_true]
  · rw [if_neg h1]
    by_cases h2 : 3 < te T L i - i ∨ m < tw T L i
    · rw [if_pos h2]
      have e2 := k_mark (M := M2) hS 2 i
      refine ⟨am_wr (am_wr M2 7 4 2) 7 3 i, -1, ?_, fr_tr fr0 (fr_tr (fr_wr (by omega)) (fr_wr (by omega))), fun z => by omega, fun _ => ⟨rfl, cF_mark g2.1⟩⟩
      by_cases h3 : 3 < te T L i - i
      · simp (disch := omega) only [c_Re_takeNumber, b_Re_takeNumber_0, r2, d1, b_Re_takeNumber_81, b_Re_takeNumber_95, b_Re_takeNumber_110, b_Re_takeNumber_120, b_Re_takeNumber_129, re0, re1, re2, re3, w1, d3, f1, w2, e2, am_ck_T, am_ck_t, am_cif_t, am_cif_f, am_cif_T, am_cif_F, am_then_s, am_push_s, am_push_n, true_and, and_true, true_or, or_true, Int.cast_ofNat_Int, am_02, am_22, not_true_eq_false, not_false_eq_true]
      · have ev : v = tw T L i := d5 (by omega)
        simp (disch := omega) only [c_Re_takeNumber, b_Re_takeNumber_0, r2, d1, b_Re_takeNumber_81, b_Re_takeNumber_95, b_Re_takeNumber_110, b_Re_takeNumber_115, b_Re_takeNumber_120, b_Re_takeNumber_129, re0, re1, re2, re3, w1, d3, f1, w2, e2, am_ck_T, am_ck_t, am_cif_t, am_cif_f, am_cif_T, am_cif_F, am_then_s, am_push_s, am_push_n, true_and, and_true, true_or, or_true, Int.cast_ofNat_Int, am_02, am_22, not_true_eq_false, not_false_eq_true]
    · rw [if_neg h2]
      have ev : v = tw T L i := d5 (by omega)
      refine ⟨M2, v, ?_, fr0, fun _ => ⟨ev, g2, w2⟩, fun z => absurd rfl z⟩
      simp (disch := omega) only [c_Re_takeNumber, b_Re_takeNumber_0, r2, d1, b_Re_takeNumber_81, b_Re_takeNumber_95, b_Re_takeNumber_110, b_Re_takeNumber_115, b_Re_takeNumber_131, re0, re1, re2, re3, w1, d3, f1, am_ck_T, am_ck_t, am_cif_t, am_cif_f, am_cif_T, am_cif_F, am_then_s, am_push_s, am_push_n, true_and, and_true, true_or, or_true, Int.cast_ofNat_Int, am_02, am_22, not_true_eq_false, not_false_eq_true]
end READ
