/-! drift: the days -/
noncomputable def vrday (X : vX) : vX := vrand (xP X, xR X, vrem (xH X) (xR X), X.2.2.2)
noncomputable def vrdays : Nat → vX → vX
  | 0, X => X
  | n + 1, X => vrdays n (vrday X)
section DRIFT2
variable {S : am_S} {M M1 : am_M} {X : vX} {B : Int} {P : vP}
theorem vpds_keep : ∀ (n : Nat) (p : Int) (X : vX), xP (vpds n p X) = xP X ∧ vdy (xR (vpds n p X)) = vdy (xR X) := by
  intro n
  induction n with
  | zero => intro p X; exact ⟨rfl, rfl⟩
  | succ n ih =>
    intro p X
    have a := ih (p + 1) (vpd X p)
    have b := vpd_keep X p
    exact ⟨a.1.trans b.1, a.2.trans b.2⟩
theorem okX_pds : ∀ (n : Nat) (p : Int) (X : vX) (B : Int), okX B X → 0 ≤ p → p + n ≤ vnp (xP X) → okX (B + n) (vpds n p X) := by
  intro n
  induction n with
  | zero => intro p X B ok _ _; exact okX_B ok (by omega)
  | succ n ih =>
    intro p X B ok h1 h2
    have a := ih (p + 1) (vpd X p) (B + 1) (okX_pd ok h1 (by omega)) (by omega) (by rw [(vpd_keep X p).1]; omega)
    exact okX_B a (by omega)
theorem okX_rand (ok : okX B X) (h : vdy (xR X) < 9030) : okX (B + 8) (vrand X) := by
  have hP := ok.1
  have hP1 := hP.1
  have hP2 := hP.2.1
  have hP3 := hP.2.2.1
  have hP4 := hP.2.2.2.1
  have a := okX_pds (vnp (xP X)).toNat 0 X B ok (by omega) (by omega)
  have b := vpds_keep (vnp (xP X)).toNat 0 X
  have d := okX_B (B' := B + 8) a (by omega)
  exact okX_row d (by omega) (okR_dawn d.2.1 (by rw [b.2]; have b1 := d.2.1.2.2.2.2.2.2; omega))
theorem vrand_keep (X : vX) : xP (vrand X) = xP X ∧ vdy (xR (vrand X)) = vdy (xR X) + 1 := by
  have b := vpds_keep (vnp (xP X)).toNat 0 X
  refine ⟨b.1, ?_⟩
  show vdy (xR (vpds (vnp (xP X)).toNat 0 X)) + 1 = vdy (xR X) + 1
  rw [b.2]
theorem k_pds (hS : ly S) (N : Int) : ∀ (n : Nat) (p : Int) (X : vX) (B : Int) (M : am_M), okX B X → 0 ≤ p → p + n = N → vnp (xP X) = N → CX X M → ∃ M1, am_R 101 2 [some (am_r 1), some (am_i p)] [] S M = am_R 101 45 [some (am_r 1), some (am_i N)] [] S M1 ∧ CX (vpds n p X) M1 ∧ fr 1 163 M M1 := by
  obtain ⟨tp0, tp1, tp2, tp3, tp4, tp5, tp6, tp7, tp8, tp9⟩ := hS.1
  obtain ⟨pl0, pl1, pl2, pl3, pl4, pl5, pl6, pl7, pl8⟩ := hS.2.1
  intro n
  induction n with
  | zero =>
    intro p X B M ok h1 h2 h3 c
    have hP := ok.1
    have hP1 := hP.1
    have hP2 := hP.2.1
    have hP3 := hP.2.2.1
    have hP4 := hP.2.2.2.1
    have np := c.1.1
    obtain rfl : p = N := by omega
    refine ⟨M, ?_, c, fr_rf⟩
    rw [b_Pe_passDayByDraws_2]
    simp (disch := omega) only [tp0, tp1, tp2, tp3, tp4, tp5, tp6, tp7, tp8, tp9, pl0, pl1, pl2, pl3, pl4, pl5, pl6, pl7, pl8, np, am_ck_T, am_ck_t, am_cif_t, am_cif_f, am_cif_T, am_cif_F, am_then_s, am_push_s, am_push_n, true_and, and_true, true_or, or_true, Int.cast_ofNat_Int, am_02, am_22, not_true_eq_false, not_false_eq_true]
  | succ n ih =>
    intro p X B M ok h1 h2 h3 c
    have hP := ok.1
    have hP1 := hP.1
    have hP2 := hP.2.1
    have hP3 := hP.2.2.1
    have hP4 := hP.2.2.2.1
    have np := c.1.1
    obtain ⟨M1, d1, d2, d3⟩ := k_pd hS ok c h1 (by omega)
    obtain ⟨M2, f1, f2, f3⟩ := ih (p + 1) (vpd X p) (B + 1) M1 (okX_pd ok h1 (by omega)) (by omega) (by omega) (by rw [(vpd_keep X p).1]; exact h3) d2
    refine ⟨M2, ?_, f2, fr_tr d3 f3⟩
    rw [b_Pe_passDayByDraws_2]
    simp (disch := omega) only [tp0, tp1, tp2, tp3, tp4, tp5, tp6, tp7, tp8, tp9, pl0, pl1, pl2, pl3, pl4, pl5, pl6, pl7, pl8, np, d1, b_Pe_passDayByDraws_39, f1, am_ck_T, am_ck_t, am_cif_t, am_cif_f, am_cif_T, am_cif_F, am_then_s, am_push_s, am_push_n, true_and, and_true, true_or, or_true, Int.cast_ofNat_Int, am_02, am_22, not_true_eq_false, not_false_eq_true]
theorem m_pds (hS : ly S) (N : Int) : ∀ (n : Nat) (p : Int) (X : vX) (B : Int) (M : am_M) (o2 o3 : Option am_V), okX B X → 0 ≤ p → p + n = N → vnp (xP X) = N → MX X M → ∃ M1 o4 o5, am_R 147 2 [some (am_r 164), some (am_i p), o2, o3] [] S M = am_R 147 106 [some (am_r 164), some (am_i N), o4, o5] [] S M1 ∧ MX (vpds n p X) M1 ∧ fr 164 176 M M1 := by
  obtain ⟨mo0, ⟨mr0, mr1, mr2, mr3, mr4, mr5, mr6, mr7, mr8, mr9, mr10, mr11⟩, mk0, mk1, mk2, mk3, mk4, mk5, mk6, mk7, mk8, mk9, mk10, mk11⟩ := hS.2.2.2.2.2.2.2.2.2.2
  intro n
  induction n with
  | zero =>
    intro p X B M o2 o3 ok h1 h2 h3 c
    have hP := ok.1
    have hP1 := hP.1
    have hP2 := hP.2.1
    have hP3 := hP.2.2.1
    have hP4 := hP.2.2.2.1
    have np := c.1.1
    obtain rfl : p = N := by omega
    refine ⟨M, o2, o3, ?_, c, fr_rf⟩
    rw [b_Mo_dayByDraws_2]
    simp (disch := omega) only [mo0, mr0, mr1, mr2, mr3, mr4, mr5, mr6, mr7, mr8, mr9, mr10, mr11, mk0, mk1, mk2, mk3, mk4, mk5, mk6, mk7, mk8, mk9, mk10, mk11, np, am_ck_T, am_ck_t, am_cif_t, am_cif_f, am_cif_T, am_cif_F, am_then_s, am_push_s, am_push_n, true_and, and_true, true_or, or_true, Int.cast_ofNat_Int, am_02, am_22, not_true_eq_false, not_false_eq_true]
  | succ n ih =>
    intro p X B M o2 o3 ok h1 h2 h3 c
    have hP := ok.1
    have hP1 := hP.1
    have hP2 := hP.2.1
    have hP3 := hP.2.2.1
    have hP4 := hP.2.2.2.1
    have np := c.1.1
    obtain ⟨M1, o4, o5, d1, d2, d3⟩ := m_pd hS ok c h1 (by omega) o2 o3
    obtain ⟨M2, o6, o7, f1, f2, f3⟩ := ih (p + 1) (vpd X p) (B + 1) M1 o4 o5 (okX_pd ok h1 (by omega)) (by omega) (by omega) (by rw [(vpd_keep X p).1]; exact h3) d2
    refine ⟨M2, o6, o7, ?_, f2, fr_tr d3 f3⟩
    rw [b_Mo_dayByDraws_2]
    simp (disch := omega) only [mo0, mr0, mr1, mr2, mr3, mr4, mr5, mr6, mr7, mr8, mr9, mr10, mr11, mk0, mk1, mk2, mk3, mk4, mk5, mk6, mk7, mk8, mk9, mk10, mk11, np, d1, b_Mo_dayByDraws_100, f1, am_ck_T, am_ck_t, am_cif_t, am_cif_f, am_cif_T, am_cif_F, am_then_s, am_push_s, am_push_n, true_and, and_true, true_or, or_true, Int.cast_ofNat_Int, am_02, am_22, not_true_eq_false, not_false_eq_true]
theorem k_rand (hS : ly S) (ok : okX B X) (c : CX X M) : ∃ M1, am_call 101 [am_r 1] S M = some (none, S, M1) ∧ CX (vrand X) M1 ∧ fr 1 163 M M1 := by
  obtain ⟨tp0, tp1, tp2, tp3, tp4, tp5, tp6, tp7, tp8, tp9⟩ := hS.1
  have hP := ok.1
  have hP1 := hP.1
  have hP2 := hP.2.1
  have hP3 := hP.2.2.1
  have hP4 := hP.2.2.2.1
  have lf14 : lf 14 := by unfold lf; omega
  have li0 := (hS.2.2.2.2.1 14 lf14).1
  have ok2 := okX_pds (vnp (xP X)).toNat 0 X B ok (by omega) (by omega)
  obtain ⟨M1, d1, d2, d3⟩ := k_pds hS (vnp (xP X)) (vnp (xP X)).toNat 0 X B M ok (by omega) (by omega) rfl c
  obtain ⟨M2, f1, f2, f3⟩ := k_dawn hS lf14 ok2.1 ok2.2.1 d2.1 d2.2.1
  refine ⟨M2, ?_, CX_row d2 f3 f2, fr_tr d3 (fr_mono f3 (by omega) (by omega))⟩
  simp (disch := omega) only [c_Pe_passDayByDraws, b_Pe_passDayByDraws_0, d1, b_Pe_passDayByDraws_45, b_Pe_passDayByDraws_52, tp0, tp1, tp2, tp3, tp4, tp5, tp6, tp7, tp8, tp9, li0, f1, am_ck_T, am_ck_t, am_cif_t, am_cif_f, am_cif_T, am_cif_F, am_then_s, am_push_s, am_push_n, true_and, and_true, true_or, or_true, Int.cast_ofNat_Int, am_02, am_22, not_true_eq_false, not_false_eq_true]
theorem m_rand (hS : ly S) (ok : okX B X) (c : MX X M) : ∃ M1, am_call 147 [am_r 164] S M = some (none, S, M1) ∧ MX (vrand X) M1 ∧ fr 164 176 M M1 := by
  obtain ⟨mo0, ⟨mr0, mr1, mr2, mr3, mr4, mr5, mr6, mr7, mr8, mr9, mr10, mr11⟩, mk0, mk1, mk2, mk3, mk4, mk5, mk6, mk7, mk8, mk9, mk10, mk11⟩ := hS.2.2.2.2.2.2.2.2.2.2
  have hP := ok.1
  have hP1 := hP.1
  have hP2 := hP.2.1
  have hP3 := hP.2.2.1
  have hP4 := hP.2.2.2.1
  have ok2 := okX_pds (vnp (xP X)).toNat 0 X B ok (by omega) (by omega)
  obtain ⟨M1, o4, o5, d1, d2, d3⟩ := m_pds hS (vnp (xP X)) (vnp (xP X)).toNat 0 X B M none none ok (by omega) (by omega) rfl c
  obtain ⟨M2, f1, f2, f3⟩ := m_morning hS ok2.1 (x := 0) (by omega) ok2.2.1 d2.1 d2.2.1
  refine ⟨M2, ?_, MX_row (X := vpds (vnp (xP X)).toNat 0 X) ok2.1 d2 f3 f2, fr_tr d3 (fr_mono f3.1 (by omega) (by omega))⟩
  simp (disch := omega) only [c_Mo_dayByDraws, b_Mo_dayByDraws_0, d1, b_Mo_dayByDraws_106, b_Mo_dayByDraws_111, mo0, mr0, mr1, mr2, mr3, mr4, mr5, mr6, mr7, mr8, mr9, mr10, mr11, mk0, mk1, mk2, mk3, mk4, mk5, mk6, mk7, mk8, mk9, mk10, mk11, f1, am_ck_T, am_ck_t, am_cif_t, am_cif_f, am_cif_T, am_cif_F, am_then_s, am_push_s, am_push_n, true_and, and_true, true_or, or_true, Int.cast_ofNat_Int, am_02, am_22, not_true_eq_false, not_false_eq_true]
theorem vrday_keep (X : vX) : vdy (xR (vrday X)) = vdy (xR X) + 1 := (vrand_keep (xP X, xR X, vrem (xH X) (xR X), X.2.2.2)).2
theorem okX_rday (ok : okX B X) (h : vdy (xR X) < 9030) : okX (B + 8) (vrday X) := okX_rand (okX_rem ok) h
theorem okX_rdays : ∀ (n : Nat) (X : vX) (B : Int), okX B X → vdy (xR X) + n ≤ 9030 → okX (B + 8 * n) (vrdays n X) := by
  intro n
  induction n with
  | zero => intro X B ok _; exact okX_B ok (by omega)
  | succ n ih =>
    intro X B ok hd
    have a := ih (vrday X) (B + 8) (okX_rday ok (by omega)) (by rw [vrday_keep]; omega)
    exact okX_B a (by omega)
theorem k_rdays (hS : ly S) (N : Int) (hN : am_Ri N) (o : Option am_V) : ∀ (n : Nat) (i : Int) (X : vX) (B : Int) (M : am_M), 0 ≤ i → i + n = N → okX B X → vdy (xR X) + n ≤ 9030 → CX X M → ∃ M1, am_R 76 14 [some (am_r 1), some (am_i N), o, some (am_i i)] [] S M = some (some (am_i (vrd (xR (vrdays n X)))), S, M1) ∧ CX (vrdays n X) M1 ∧ fr 1 163 M M1 := by
  obtain ⟨tp0, tp1, tp2, tp3, tp4, tp5, tp6, tp7, tp8, tp9⟩ := hS.1
  obtain ⟨hi0, hi1, hi2, hi3⟩ := hS.2.2.2.2.2.1
  have lf14 : lf 14 := by unfold lf; omega
  have li0 := (hS.2.2.2.2.1 14 lf14).1
  intro n
  induction n with
  | zero =>
    intro i X B M hi hn ok hd c
    refine ⟨M, ?_, c, fr_rf⟩
    have e1 := c.2.1.2.2.2.2.1
    rw [b_Pe_drift_14]
    simp (disch := omega) only [b_Pe_drift_40, tp0, tp1, tp2, tp3, tp4, tp5, tp6, tp7, tp8, tp9, hi0, hi1, hi2, li0, e1, vrdays, am_ck_T, am_ck_t, am_cif_t, am_cif_f, am_cif_T, am_cif_F, am_then_s, am_push_s, am_push_n, true_and, and_true, true_or, or_true, Int.cast_ofNat_Int, am_02, am_22, not_true_eq_false, not_false_eq_true]
  | succ n ih =>
    intro i X B M hi hn ok hd c
    obtain ⟨M1, d1, d2, d3⟩ := k_remember hS ok c
    obtain ⟨M2, f1, f2, f3⟩ := k_rand hS (okX_rem ok) d2
    obtain ⟨M3, g2, g3, g4⟩ := ih (i + 1) (vrday X) (B + 8) M2 (by omega) (by omega) (okX_rday ok (by omega)) (by rw [vrday_keep]; omega) f2
    refine ⟨M3, ?_, g3, fr_tr (fr_tr (fr_mono d3 (by omega) (by omega)) f3) g4⟩
    rw [b_Pe_drift_14]
    simp (disch := omega) only [b_Pe_drift_19, b_Pe_drift_30, b_Pe_drift_34, tp0, tp1, tp2, tp3, tp4, tp5, tp6, tp7, tp8, tp9, hi0, hi1, hi2, li0, d1, f1, g2, vrdays, am_ck_T, am_ck_t, am_cif_t, am_cif_f, am_cif_T, am_cif_F, am_then_s, am_push_s, am_push_n, true_and, and_true, true_or, or_true, Int.cast_ofNat_Int, am_02, am_22, not_true_eq_false, not_false_eq_true]
theorem m_rdays (hS : ly S) (N : Int) (hN : am_Ri N) (o : Option am_V) : ∀ (n : Nat) (i : Int) (X : vX) (B : Int) (M : am_M), 0 ≤ i → i + n = N → okX B X → vdy (xR X) + n ≤ 9030 → MX X M → ∃ M1, am_R 148 14 [some (am_r 164), some (am_i N), o, some (am_i i)] [] S M = some (some (am_i (vrd (xR (vrdays n X)))), S, M1) ∧ MX (vrdays n X) M1 ∧ fr 164 176 M M1 := by
  obtain ⟨mo0, ⟨mr0, mr1, mr2, mr3, mr4, mr5, mr6, mr7, mr8, mr9, mr10, mr11⟩, mk0, mk1, mk2, mk3, mk4, mk5, mk6, mk7, mk8, mk9, mk10, mk11⟩ := hS.2.2.2.2.2.2.2.2.2.2
  intro n
  induction n with
  | zero =>
    intro i X B M hi hn ok hd c
    refine ⟨M, ?_, c, fr_rf⟩
    have e1 : M 165 80 = vrd (xR X) := c.2.1.2.2.2.2.1
    rw [b_Mo_drift_14]
    simp (disch := omega) only [b_Mo_drift_33, mo0, mr0, mr1, mr2, mr3, mr4, mr5, mr6, mr7, mr8, mr9, mr10, mr11, mk0, mk1, mk2, mk3, mk4, mk5, mk6, mk7, mk8, mk9, mk10, mk11, e1, vrdays, am_ck_T, am_ck_t, am_cif_t, am_cif_f, am_cif_T, am_cif_F, am_then_s, am_push_s, am_push_n, true_and, and_true, true_or, or_true, Int.cast_ofNat_Int, am_02, am_22, not_true_eq_false, not_false_eq_true]
  | succ n ih =>
    intro i X B M hi hn ok hd c
    obtain ⟨M1, d1, d2, d3⟩ := m_remember hS ok c
    obtain ⟨M2, f1, f2, f3⟩ := m_rand hS (okX_rem ok) d2
    obtain ⟨M3, g2, g3, g4⟩ := ih (i + 1) (vrday X) (B + 8) M2 (by omega) (by omega) (okX_rday ok (by omega)) (by rw [vrday_keep]; omega) f2
    refine ⟨M3, ?_, g3, fr_tr (fr_tr (fr_mono d3 (by omega) (by omega)) f3) g4⟩
    rw [b_Mo_drift_14]
    simp (disch := omega) only [b_Mo_drift_19, b_Mo_drift_23, b_Mo_drift_27, mo0, mr0, mr1, mr2, mr3, mr4, mr5, mr6, mr7, mr8, mr9, mr10, mr11, mk0, mk1, mk2, mk3, mk4, mk5, mk6, mk7, mk8, mk9, mk10, mk11, d1, f1, g2, vrdays, am_ck_T, am_ck_t, am_cif_t, am_cif_f, am_cif_T, am_cif_F, am_then_s, am_push_s, am_push_n, true_and, and_true, true_or, or_true, Int.cast_ofNat_Int, am_02, am_22, not_true_eq_false, not_false_eq_true]
theorem p_drift (hS : ly S) {n : Int} (i1 : am_Ri n) : Pr S 76 148 [am_i n] := by
  intro B X h0 h1 ok
  obtain ⟨tp0, tp1, tp2, tp3, tp4, tp5, tp6, tp7, tp8, tp9⟩ := hS.1
  obtain ⟨mo0, ⟨mr0, mr1, mr2, mr3, mr4, mr5, mr6, mr7, mr8, mr9, mr10, mr11⟩, mk0, mk1, mk2, mk3, mk4, mk5, mk6, mk7, mk8, mk9, mk10, mk11⟩ := hS.2.2.2.2.2.2.2.2.2.2
  have hP := ok.1
  have hR := ok.2.1
  by_cases hz : vrfd (xP X) (xR X) n = 0
  · obtain ⟨z1, z2, z3, z4⟩ := vrfd_0 hz
    have eN : (0 : Int) + (n.toNat : Int) = n := by omega
    have hd : vdy (xR X) + (n.toNat : Int) ≤ 9030 := by omega
    have ok2 := okX_rdays n.toNat X B ok hd
    have r := ok2.2.1.2.2.2.2.2.2
    refine ⟨vrd (xR (vrdays n.toNat X)), vrdays n.toNat X, ⟨by omega, by omega⟩, okX_B ok2 (by omega), fun M c => ?_, fun M c => ?_⟩
    · have e1 := k_days hS hP (by omega) hR c.1 c.2.1 i1
      rw [hz] at e1
      obtain ⟨M1, d1, d2, d3⟩ := k_rdays hS n i1 (some (am_i 0)) n.toNat 0 X B M (by omega) eN ok hd c
      refine ⟨M1, ?_, d2, d3⟩
      simp (disch := omega) only [c_Pe_drift, b_Pe_drift_0, b_Pe_drift_5, b_Pe_drift_12, tp0, tp1, tp2, tp3, tp4, tp5, tp6, tp7, tp8, tp9, e1, d1, am_ck_T, am_ck_t, am_cif_t, am_cif_f, am_cif_T, am_cif_F, am_then_s, am_push_s, am_push_n, true_and, and_true, true_or, or_true, Int.cast_ofNat_Int, am_02, am_22, not_true_eq_false, not_false_eq_true]
    · have e1 := m_days hS hP (by omega) hR c.1 c.2.1 i1
      rw [hz] at e1
      obtain ⟨M1, d1, d2, d3⟩ := m_rdays hS n i1 (some (am_i 0)) n.toNat 0 X B M (by omega) eN ok hd c
      refine ⟨M1, ?_, d2, d3⟩
      simp (disch := omega) only [c_Mo_drift, b_Mo_drift_0, b_Mo_drift_5, b_Mo_drift_12, mo0, mr0, mr1, mr2, mr3, mr4, mr5, mr6, mr7, mr8, mr9, mr10, mr11, mk0, mk1, mk2, mk3, mk4, mk5, mk6, mk7, mk8, mk9, mk10, mk11, e1, d1, am_ck_T, am_ck_t, am_cif_t, am_cif_f, am_cif_T, am_cif_F, am_then_s, am_push_s, am_push_n, true_and, and_true, true_or, or_true, Int.cast_ofNat_Int, am_02, am_22, not_true_eq_false, not_false_eq_true]
  · have r := vrfd_rng (xP X) (xR X) n
    refine ⟨vrfd (xP X) (xR X) n, X, ⟨by omega, by omega⟩, okX_B ok (by omega), CC_id (fun M c => ?_), MM_id (fun M c => ?_)⟩
    · have e1 := k_days hS hP (by omega) hR c.1 c.2.1 i1
      simp (disch := omega) only [c_Pe_drift, b_Pe_drift_0, b_Pe_drift_5, b_Pe_drift_10, tp0, tp1, tp2, tp3, tp4, tp5, tp6, tp7, tp8, tp9, e1, am_ck_T, am_ck_t, am_cif_t, am_cif_f, am_cif_T, am_cif_F, am_then_s, am_push_s, am_push_n, true_and, and_true, true_or, or_true, Int.cast_ofNat_Int, am_02, am_22, not_true_eq_false, not_false_eq_true]
    · have e1 := m_days hS hP (by omega) hR c.1 c.2.1 i1
      simp (disch := omega) only [c_Mo_drift, b_Mo_drift_0, b_Mo_drift_5, b_Mo_drift_10, mo0, mr0, mr1, mr2, mr3, mr4, mr5, mr6, mr7, mr8, mr9, mr10, mr11, mk0, mk1, mk2, mk3, mk4, mk5, mk6, mk7, mk8, mk9, mk10, mk11, e1, am_ck_T, am_ck_t, am_cif_t, am_cif_f, am_cif_T, am_cif_F, am_then_s, am_push_s, am_push_n, true_and, and_true, true_or, or_true, Int.cast_ofNat_Int, am_02, am_22, not_true_eq_false, not_false_eq_true]
end DRIFT2
