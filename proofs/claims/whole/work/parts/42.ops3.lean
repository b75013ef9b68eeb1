/-! morning, end, die -/
noncomputable def vday (X : vX) : vX := (xP X, vdawn (xR X), vrem (xH X) (xR X), X.2.2.2)
noncomputable def vdays : Nat → vX → vX
  | 0, X => X
  | n + 1, X => vdays n (vday X)
theorem vfi_none (f : Int → Int) (g : Int) : ∀ (n : Nat) (i : Int), 0 ≤ i → vfi f g n i = -1 → ∀ k, i ≤ k → k < i + n → f k ≠ g := by
  intro n
  induction n with
  | zero => intro i _ _ k h1 h2; omega
  | succ n ih =>
    intro i hi h k h1 h2
    unfold vfi at h
    by_cases hq : f i = g
    · rw [if_pos hq] at h; omega
    · rw [if_neg hq] at h
      by_cases hk : k = i
      · rw [hk]; exact hq
      · exact ih (i + 1) (by omega) h k (by omega) (by omega)
theorem bt_or : ∀ (d : Fin 256) (p : Fin 8), 0 ≤ am_or (d.val : Int) (am_shl 1 (p.val : Int)) ∧ am_or (d.val : Int) (am_shl 1 (p.val : Int)) < 256 := by decide +kernel
theorem bt_or2 : ∀ (d : Fin 256) (p q : Fin 8), am_and (am_shr (am_or (d.val : Int) (am_shl 1 (p.val : Int))) (q.val : Int)) 1 = if q = p then 1 else am_and (am_shr (d.val : Int) (q.val : Int)) 1 := by decide +kernel
section OPS3
variable {S : am_S} {M : am_M} {X : vX} {B : Int} {P : vP}
theorem bt_cnt (d : Fin 256) : am_call 178 [am_i (d.val : Int)] S M = some (some (am_i (vsum (fun q => am_and (am_shr (d.val : Int) q) 1) 8 0)), S, M) := by
  rw [c_In_bitCount, b_In_bitCount_0]
  refine congrArg (fun v => some (some (am_i v), S, M)) ?_
  revert d
  decide +kernel
theorem okX_day (ok : okX B X) (h : vdy (xR X) < 9030) : okX B (vday X) := okX_row (okX_rem ok) (by omega) (okR_dawn ok.2.1 (by have b1 := ok.2.1.2.2.2.2.2.2; omega))
theorem k_days_loop (hS : ly S) (N : Int) (hN : am_Ri N) (o : Option am_V) : ∀ (n : Nat) (i : Int) (X : vX) (M : am_M), 0 ≤ i → i + n = N → okX B X → vdy (xR X) + n ≤ 9030 → CX X M → okX B (vdays n X) ∧ ∃ M1, am_R 73 14 [some (am_r 1), some (am_i N), o, some (am_i i)] [] S M = some (some (am_i (vtg (xP (vdays n X)) (xR (vdays n X)))), S, M1) ∧ CX (vdays n X) M1 ∧ fr 1 163 M M1 := by
  obtain ⟨tp0, tp1, tp2, tp3, tp4, tp5, tp6, tp7, tp8, tp9⟩ := hS.1
  obtain ⟨hi0, hi1, hi2, hi3⟩ := hS.2.2.2.2.2.1
  have lf14 : lf 14 := by unfold lf; omega
  have li0 := (hS.2.2.2.2.1 14 lf14).1
  intro n
  induction n with
  | zero =>
    intro i X M hi hn ok hd c
    refine ⟨ok, M, ?_, c, fr_rf⟩
    have e1 := k_together hS lf14 ok.1 c.1 c.2.1
    rw [b_Pe_morning_14]
    simp (disch := omega) only [b_Pe_morning_44, b_Pe_morning_51, tp0, tp1, tp2, tp3, tp4, tp5, tp6, tp7, tp8, tp9, hi0, hi1, hi2, li0, e1, vdays, am_ck_T, am_ck_t, am_cif_t, am_cif_f, am_cif_T, am_cif_F, am_then_s, am_push_s, am_push_n, true_and, and_true, true_or, or_true, Int.cast_ofNat_Int, am_02, am_22, not_true_eq_false, not_false_eq_true]
  | succ n ih =>
    intro i X M hi hn ok hd c
    obtain ⟨M1, d1, d2, d3⟩ := k_remember hS ok c
    obtain ⟨M2, f1, f2, f3⟩ := k_dawn hS lf14 ok.1 ok.2.1 d2.1 d2.2.1
    have ok2 := okX_day ok (by omega)
    have c2 : CX (vday X) M2 := CX_row d2 f3 f2
    have hd2 : vdy (xR (vday X)) + n ≤ 9030 := by
      show vdy (xR X) + 1 + n ≤ 9030
      omega
    obtain ⟨g1, M3, g2, g3, g4⟩ := ih (i + 1) (vday X) M2 (by omega) (by omega) ok2 hd2 c2
    refine ⟨g1, M3, ?_, g3, fr_tr (fr_tr (fr_mono d3 (by omega) (by omega)) (fr_mono f3 (by omega) (by omega))) g4⟩
    rw [b_Pe_morning_14]
    simp (disch := omega) only [b_Pe_morning_19, b_Pe_morning_30, b_Pe_morning_37, tp0, tp1, tp2, tp3, tp4, tp5, tp6, tp7, tp8, tp9, hi0, hi1, hi2, li0, d1, f1, g2, vdays, am_ck_T, am_ck_t, am_cif_t, am_cif_f, am_cif_T, am_cif_F, am_then_s, am_push_s, am_push_n, true_and, and_true, true_or, or_true, Int.cast_ofNat_Int, am_02, am_22, not_true_eq_false, not_false_eq_true]
theorem m_days_loop (hS : ly S) (N : Int) (hN : am_Ri N) (o : Option am_V) : ∀ (n : Nat) (i : Int) (X : vX) (M : am_M) (o4 : Option am_V), 0 ≤ i → i + n = N → okX B X → vdy (xR X) + n ≤ 9030 → MX X M → ∃ M1, am_R 143 14 [some (am_r 164), some (am_i N), o, some (am_i i), o4] [] S M = some (some (am_i (vtg (xP (vdays n X)) (xR (vdays n X)))), S, M1) ∧ MX (vdays n X) M1 ∧ fr 164 176 M M1 := by
  obtain ⟨mo0, ⟨mr0, mr1, mr2, mr3, mr4, mr5, mr6, mr7, mr8, mr9, mr10, mr11⟩, mk0, mk1, mk2, mk3, mk4, mk5, mk6, mk7, mk8, mk9, mk10, mk11⟩ := hS.2.2.2.2.2.2.2.2.2.2
  intro n
  induction n with
  | zero =>
    intro i X M o4 hi hn ok hd c
    refine ⟨M, ?_, c, fr_rf⟩
    have e1 := m_allNear hS ok.1 ok.2.1 c.1 c.2.1
    rw [b_Mo_morning_14]
    simp (disch := omega) only [b_Mo_morning_36, b_Mo_morning_40, mo0, mr0, mr1, mr2, mr3, mr4, mr5, mr6, mr7, mr8, mr9, mr10, mr11, mk0, mk1, mk2, mk3, mk4, mk5, mk6, mk7, mk8, mk9, mk10, mk11, e1, vdays, am_ck_T, am_ck_t, am_cif_t, am_cif_f, am_cif_T, am_cif_F, am_then_s, am_push_s, am_push_n, true_and, and_true, true_or, or_true, Int.cast_ofNat_Int, am_02, am_22, not_true_eq_false, not_false_eq_true]
  | succ n ih =>
    intro i X M o4 hi hn ok hd c
    obtain ⟨M1, d1, d2, d3⟩ := m_remember hS ok c
    obtain ⟨M2, f1, f2, f3⟩ := m_morning hS ok.1 (x := 0) (by omega) ok.2.1 d2.1 d2.2.1
    have ok2 := okX_day ok (by omega)
    have c2 : MX (vday X) M2 := MX_row (X := (xP X, xR X, vrem (xH X) (xR X), X.2.2.2)) ok.1 d2 f3 f2
    have hd2 : vdy (xR (vday X)) + n ≤ 9030 := by
      show vdy (xR X) + 1 + n ≤ 9030
      omega
    obtain ⟨M3, g2, g3, g4⟩ := ih (i + 1) (vday X) M2 (some (am_i (bo (vwm (xP X) (xR X))))) (by omega) (by omega) ok2 hd2 c2
    refine ⟨M3, ?_, g3, fr_tr (fr_tr (fr_mono d3 (by omega) (by omega)) (fr_mono f3.1 (by omega) (by omega))) g4⟩
    rw [b_Mo_morning_14]
    simp (disch := omega) only [b_Mo_morning_19, b_Mo_morning_23, b_Mo_morning_28, mo0, mr0, mr1, mr2, mr3, mr4, mr5, mr6, mr7, mr8, mr9, mr10, mr11, mk0, mk1, mk2, mk3, mk4, mk5, mk6, mk7, mk8, mk9, mk10, mk11, d1, f1, g2, vdays, am_ck_T, am_ck_t, am_cif_t, am_cif_f, am_cif_T, am_cif_F, am_then_s, am_push_s, am_push_n, true_and, and_true, true_or, or_true, Int.cast_ofNat_Int, am_02, am_22, not_true_eq_false, not_false_eq_true]
theorem vrfd_rng (P : vP) (R : vR) (n : Int) : vrfd P R n ≤ 0 ∧ -1000000004 ≤ vrfd P R n := by
  unfold vrfd
  by_cases h1 : n < 1 ∨ 30 < n
  · rw [if_pos h1]; omega
  · rw [if_neg h1]
    by_cases h2 : vnp P = 0
    · rw [if_pos h2]; omega
    · rw [if_neg h2]
      by_cases h3 : 9000 < vdy R
      · rw [if_pos h3]; omega
      · rw [if_neg h3]; omega
theorem vrfd_0 {P : vP} {R : vR} {n : Int} (h : vrfd P R n = 0) : 1 ≤ n ∧ n ≤ 30 ∧ vnp P ≠ 0 ∧ vdy R ≤ 9000 := by
  unfold vrfd at h
  by_cases h1 : n < 1 ∨ 30 < n
  · rw [if_pos h1] at h; omega
  · rw [if_neg h1] at h
    by_cases h2 : vnp P = 0
    · rw [if_pos h2] at h; omega
    · rw [if_neg h2] at h
      by_cases h3 : 9000 < vdy R
      · rw [if_pos h3] at h; omega
      · exact ⟨by omega, by omega, h2, by omega⟩
theorem p_morning (hS : ly S) {n : Int} (i1 : am_Ri n) : Pr S 73 143 [am_i n] := by
  intro B X h0 h1 ok
  obtain ⟨tp0, tp1, tp2, tp3, tp4, tp5, tp6, tp7, tp8, tp9⟩ := hS.1
  obtain ⟨mo0, ⟨mr0, mr1, mr2, mr3, mr4, mr5, mr6, mr7, mr8, mr9, mr10, mr11⟩, mk0, mk1, mk2, mk3, mk4, mk5, mk6, mk7, mk8, mk9, mk10, mk11⟩ := hS.2.2.2.2.2.2.2.2.2.2
  have hP := ok.1
  have hR := ok.2.1
  by_cases hz : vrfd (xP X) (xR X) n = 0
  · obtain ⟨z1, z2, z3, z4⟩ := vrfd_0 hz
    have eN : (0 : Int) + (n.toNat : Int) = n := by omega
    have hd : vdy (xR X) + (n.toNat : Int) ≤ 9030 := by omega
    have ok2 : okX B (vdays n.toNat X) := by
      have gen : ∀ (n : Nat) (X : vX), okX B X → vdy (xR X) + n ≤ 9030 → okX B (vdays n X) := by
        intro n
        induction n with
        | zero => intro X ok _; exact ok
        | succ n ih =>
          intro X ok hd
          refine ih (vday X) (okX_day ok (by omega)) ?_
          show vdy (xR X) + 1 + n ≤ 9030
          omega
      exact gen n.toNat X ok hd
    have r := vtg_rng ok2.1 ok2.2.1
    refine ⟨vtg (xP (vdays n.toNat X)) (xR (vdays n.toNat X)), vdays n.toNat X, ⟨by omega, by omega⟩, okX_B ok2 (by omega), fun M c => ?_, fun M c => ?_⟩
    · have e1 := k_days hS hP (by omega) hR c.1 c.2.1 i1
      rw [hz] at e1
      obtain ⟨_, M1, d1, d2, d3⟩ := k_days_loop hS n i1 (some (am_i 0)) n.toNat 0 X M (by omega) eN ok hd c
      refine ⟨M1, ?_, d2, d3⟩
      simp (disch := omega) only [c_Pe_morning, b_Pe_morning_0, b_Pe_morning_5, b_Pe_morning_12, tp0, tp1, tp2, tp3, tp4, tp5, tp6, tp7, tp8, tp9, e1, d1, am_ck_T, am_ck_t, am_cif_t, am_cif_f, am_cif_T, am_cif_F, am_then_s, am_push_s, am_push_n, true_and, and_true, true_or, or_true, Int.cast_ofNat_Int, am_02, am_22, not_true_eq_false, not_false_eq_true]
    · have e1 := m_days hS hP (by omega) hR c.1 c.2.1 i1
      rw [hz] at e1
      obtain ⟨M1, d1, d2, d3⟩ := m_days_loop hS n i1 (some (am_i 0)) n.toNat 0 X M none (by omega) eN ok hd c
      refine ⟨M1, ?_, d2, d3⟩
      simp (disch := omega) only [c_Mo_morning, b_Mo_morning_0, b_Mo_morning_5, b_Mo_morning_12, mo0, mr0, mr1, mr2, mr3, mr4, mr5, mr6, mr7, mr8, mr9, mr10, mr11, mk0, mk1, mk2, mk3, mk4, mk5, mk6, mk7, mk8, mk9, mk10, mk11, e1, d1, am_ck_T, am_ck_t, am_cif_t, am_cif_f, am_cif_T, am_cif_F, am_then_s, am_push_s, am_push_n, true_and, and_true, true_or, or_true, Int.cast_ofNat_Int, am_02, am_22, not_true_eq_false, not_false_eq_true]
  · have r := vrfd_rng (xP X) (xR X) n
    refine ⟨vrfd (xP X) (xR X) n, X, ⟨by omega, by omega⟩, okX_B ok (by omega), CC_id (fun M c => ?_), MM_id (fun M c => ?_)⟩
    · have e1 := k_days hS hP (by omega) hR c.1 c.2.1 i1
      simp (disch := omega) only [c_Pe_morning, b_Pe_morning_0, b_Pe_morning_5, b_Pe_morning_10, tp0, tp1, tp2, tp3, tp4, tp5, tp6, tp7, tp8, tp9, e1, am_ck_T, am_ck_t, am_cif_t, am_cif_f, am_cif_T, am_cif_F, am_then_s, am_push_s, am_push_n, true_and, and_true, true_or, or_true, Int.cast_ofNat_Int, am_02, am_22, not_true_eq_false, not_false_eq_true]
    · have e1 := m_days hS hP (by omega) hR c.1 c.2.1 i1
      simp (disch := omega) only [c_Mo_morning, b_Mo_morning_0, b_Mo_morning_5, b_Mo_morning_10, mo0, mr0, mr1, mr2, mr3, mr4, mr5, mr6, mr7, mr8, mr9, mr10, mr11, mk0, mk1, mk2, mk3, mk4, mk5, mk6, mk7, mk8, mk9, mk10, mk11, e1, am_ck_T, am_ck_t, am_cif_t, am_cif_f, am_cif_T, am_cif_F, am_then_s, am_push_s, am_push_n, true_and, and_true, true_or, or_true, Int.cast_ofNat_Int, am_02, am_22, not_true_eq_false, not_false_eq_true]
theorem okR_end {P : vP} {R : vR} (hR : okR P B R) {l p : Int} (h1 : 0 ≤ p) (h2 : p < vnp P) (hl : 0 ≤ l) (hv : vpl P R l p = -1) : okR P B (vSe R l p) := by
  obtain ⟨a1, a2, a3, a4, a5⟩ := hR
  refine ⟨a1, a2, fun k k1 k2 => ?_, fun m k m1 m2 k1 k2 => ?_, a5⟩
  · show 0 ≤ (if k = l then p else ven R k) ∧ (if k = l then p else ven R k) < vnp P
    by_cases h : k = l
    · rw [if_pos h]; exact ⟨h1, h2⟩
    · rw [if_neg h]; exact a3 k k1 k2
  · show vst P m k ≠ (if m = l then p else ven R m)
    by_cases h : m = l
    · rw [if_pos h, h]
      have := vfi_none (vsp P R l) p (vsz P l).toNat 0 (by omega) hv k (by omega) (by rw [h] at k2; omega)
      unfold vsp at this
      rw [if_neg (by rw [h] at k2; omega)] at this
      exact this
    · rw [if_neg h]; exact a4 m k m1 m2 k1 k2
theorem p_end (hS : ly S) {l p : Int} (i1 : am_Ri l) (i2 : am_Ri p) : Pr S 74 144 [am_i l, am_i p] := by
  intro B X h0 h1 ok
  obtain ⟨tp0, tp1, tp2, tp3, tp4, tp5, tp6, tp7, tp8, tp9⟩ := hS.1
  obtain ⟨hi0, hi1, hi2, hi3⟩ := hS.2.2.2.2.2.1
  obtain ⟨mo0, ⟨mr0, mr1, mr2, mr3, mr4, mr5, mr6, mr7, mr8, mr9, mr10, mr11⟩, mk0, mk1, mk2, mk3, mk4, mk5, mk6, mk7, mk8, mk9, mk10, mk11⟩ := hS.2.2.2.2.2.2.2.2.2.2
  have hP := ok.1
  have hR := ok.2.1
  have hP1 := hP.1
  have hP2 := hP.2.1
  have hP3 := hP.2.2.1
  have hP4 := hP.2.2.2.1
  have lf14 : lf 14 := by unfold lf; omega
  obtain ⟨li0, li1, li2, li3, li4, li5, li6, li7⟩ := hS.2.2.2.2.1 14 lf14
  by_cases hl : 0 ≤ l ∧ l < vnl (xP X)
  · by_cases hp : 0 ≤ p ∧ p < vnp (xP X)
    · have rr := vfi_rng (vsp (xP X) (xR X) l) p (vsz (xP X) l).toNat 0
      have s1 := hP.2.2.2.2.1 l hl.1 hl.2
      have r2 : vpl (xP X) (xR X) l p = -1 ∨ (0 ≤ vpl (xP X) (xR X) l p ∧ vpl (xP X) (xR X) l p < vsz (xP X) l) := by unfold vpl; omega
      by_cases hv : vpl (xP X) (xR X) l p = -1
      · have okr := okR_end hR hp.1 hp.2 hl.1 hv
        have okr2 : okX B (xP X, vSe (xR X) l p, vrem (xH X) (xR X), X.2.2.2) := okX_row (okX_rem ok) (by omega) okr
        have r := hR.2.2.1 l hl.1 hl.2
        refine ⟨ven (xR X) l, (xP X, vSe (xR X) l p, vrem (xH X) (xR X), X.2.2.2), ⟨by omega, by omega⟩, okX_B okr2 (by omega), fun M c => ?_, fun M c => ?_⟩
        · have e1 := k_isLine hS hP c.1 i1
          have e2 := k_isPerson hS hP c.1 i2
          have e3 := k_place hS lf14 hP hR c.1 c.2.1 hl.1 hl.2 hp.1 hp.2
          rw [bo_t hl] at e1
          rw [bo_t hp] at e2
          rw [hv] at e3
          obtain ⟨M1, d1, d2, d3⟩ := k_remember hS ok c
          have e4 := d2.2.1.2.2.1 l hl.1 hl.2
          refine ⟨am_wr M1 (14 + 3) l p, ?_, CX_row d2 (fr_wr (by omega)) (cR_Se d2.2.1 l p), fr_tr (fr_mono d3 (by omega) (by omega)) (fr_wr (by omega))⟩
          simp (disch := omega) only [c_Pe_end, b_Pe_end_0, b_Pe_end_5, b_Pe_end_8, b_Pe_end_13, b_Pe_end_16, b_Pe_end_19, b_Pe_end_28, b_Pe_end_32, b_Pe_end_35, b_Pe_end_46, tp0, tp1, tp2, tp3, tp4, tp5, tp6, tp7, tp8, tp9, hi0, hi1, hi2, li0, li1, li2, li3, li4, li5, li6, li7, e1, e2, e3, d1, e4, am_ck_T, am_ck_t, am_cif_t, am_cif_f, am_cif_T, am_cif_F, am_then_s, am_push_s, am_push_n, true_and, and_true, true_or, or_true, Int.cast_ofNat_Int, am_02, am_22, not_true_eq_false, not_false_eq_true]
        · have e1 := m_isLine hS hP c.1 i1
          have e2 := m_isPerson hS hP c.1 i2
          have e3 := m_where hS hP hR c.1 c.2.1 (by omega) hl.1 hl.2 hp.1 hp.2
          rw [bo_t hl] at e1
          rw [bo_t hp] at e2
          rw [hv] at e3
          obtain ⟨M1, d1, d2, d3⟩ := m_remember hS ok c
          have e4 : M1 165 (72 + l) = ven (xR X) l := d2.2.1.2.2.1 l hl.1 hl.2
          have e5 : mR (xP X) (vSe (xR X) l p) 0 (am_wr M1 165 (72 + l) p) := mR_Se hP d2.2.1 p (by omega)
          refine ⟨am_wr M1 165 (72 + l) p, ?_, MX_row (X := (xP X, xR X, vrem (xH X) (xR X), X.2.2.2)) hP d2 (fx_wr (by omega)) e5, fr_tr (fr_mono d3 (by omega) (by omega)) (fr_wr (by omega))⟩
          simp (disch := omega) only [c_Mo_end, b_Mo_end_0, b_Mo_end_5, b_Mo_end_8, b_Mo_end_13, b_Mo_end_16, b_Mo_end_19, b_Mo_end_26, b_Mo_end_30, b_Mo_end_33, b_Mo_end_37, mo0, mr0, mr1, mr2, mr3, mr4, mr5, mr6, mr7, mr8, mr9, mr10, mr11, mk0, mk1, mk2, mk3, mk4, mk5, mk6, mk7, mk8, mk9, mk10, mk11, e1, e2, e3, d1, e4, am_ck_T, am_ck_t, am_cif_t, am_cif_f, am_cif_T, am_cif_F, am_then_s, am_push_s, am_push_n, true_and, and_true, true_or, or_true, Int.cast_ofNat_Int, am_02, am_22, not_true_eq_false, not_false_eq_true]
      · refine ⟨-1000000003, X, ⟨by omega, by omega⟩, okX_B ok (by omega), CC_id (fun M c => ?_), MM_id (fun M c => ?_)⟩
        · have e1 := k_isLine hS hP c.1 i1
          have e2 := k_isPerson hS hP c.1 i2
          have e3 := k_place hS lf14 hP hR c.1 c.2.1 hl.1 hl.2 hp.1 hp.2
          rw [bo_t hl] at e1
          rw [bo_t hp] at e2
          simp (disch := omega) only [c_Pe_end, b_Pe_end_0, b_Pe_end_5, b_Pe_end_8, b_Pe_end_13, b_Pe_end_16, b_Pe_end_19, b_Pe_end_28, b_Pe_end_32, b_Pe_end_35, b_Pe_end_46, tp0, tp1, tp2, tp3, tp4, tp5, tp6, tp7, tp8, tp9, hi0, hi1, hi2, li0, li1, li2, li3, li4, li5, li6, li7, e1, e2, e3, am_ck_T, am_ck_t, am_cif_t, am_cif_f, am_cif_T, am_cif_F, am_then_s, am_push_s, am_push_n, true_and, and_true, true_or, or_true, Int.cast_ofNat_Int, am_02, am_22, not_true_eq_false, not_false_eq_true]
        · have e1 := m_isLine hS hP c.1 i1
          have e2 := m_isPerson hS hP c.1 i2
          have e3 := m_where hS hP hR c.1 c.2.1 (by omega) hl.1 hl.2 hp.1 hp.2
          rw [bo_t hl] at e1
          rw [bo_t hp] at e2
          simp (disch := omega) only [c_Mo_end, b_Mo_end_0, b_Mo_end_5, b_Mo_end_8, b_Mo_end_13, b_Mo_end_16, b_Mo_end_19, b_Mo_end_26, b_Mo_end_30, b_Mo_end_33, b_Mo_end_37, mo0, mr0, mr1, mr2, mr3, mr4, mr5, mr6, mr7, mr8, mr9, mr10, mr11, mk0, mk1, mk2, mk3, mk4, mk5, mk6, mk7, mk8, mk9, mk10, mk11, e1, e2, e3, am_ck_T, am_ck_t, am_cif_t, am_cif_f, am_cif_T, am_cif_F, am_then_s, am_push_s, am_push_n, true_and, and_true, true_or, or_true, Int.cast_ofNat_Int, am_02, am_22, not_true_eq_false, not_false_eq_true]
    · refine ⟨-1000000001, X, ⟨by omega, by omega⟩, okX_B ok (by omega), CC_id (fun M c => ?_), MM_id (fun M c => ?_)⟩
      · have e1 := k_isLine hS hP c.1 i1
        have e2 := k_isPerson hS hP c.1 i2
        rw [bo_t hl] at e1
        rw [bo_f hp] at e2
        simp (disch := omega) only [c_Pe_end, b_Pe_end_0, b_Pe_end_5, b_Pe_end_8, b_Pe_end_13, b_Pe_end_16, b_Pe_end_19, b_Pe_end_28, b_Pe_end_32, b_Pe_end_35, b_Pe_end_46, tp0, tp1, tp2, tp3, tp4, tp5, tp6, tp7, tp8, tp9, hi0, hi1, hi2, li0, li1, li2, li3, li4, li5, li6, li7, e1, e2, am_ck_T, am_ck_t, am_cif_t, am_cif_f, am_cif_T, am_cif_F, am_then_s, am_push_s, am_push_n, true_and, and_true, true_or, or_true, Int.cast_ofNat_Int, am_02, am_22, not_true_eq_false, not_false_eq_true]
      · have e1 := m_isLine hS hP c.1 i1
        have e2 := m_isPerson hS hP c.1 i2
        rw [bo_t hl] at e1
        rw [bo_f hp] at e2
        simp (disch := omega) only [c_Mo_end, b_Mo_end_0, b_Mo_end_5, b_Mo_end_8, b_Mo_end_13, b_Mo_end_16, b_Mo_end_19, b_Mo_end_26, b_Mo_end_30, b_Mo_end_33, b_Mo_end_37, mo0, mr0, mr1, mr2, mr3, mr4, mr5, mr6, mr7, mr8, mr9, mr10, mr11, mk0, mk1, mk2, mk3, mk4, mk5, mk6, mk7, mk8, mk9, mk10, mk11, e1, e2, am_ck_T, am_ck_t, am_cif_t, am_cif_f, am_cif_T, am_cif_F, am_then_s, am_push_s, am_push_n, true_and, and_true, true_or, or_true, Int.cast_ofNat_Int, am_02, am_22, not_true_eq_false, not_false_eq_true]
  · refine ⟨-1000000001, X, ⟨by omega, by omega⟩, okX_B ok (by omega), CC_id (fun M c => ?_), MM_id (fun M c => ?_)⟩
    · have e1 := k_isLine hS hP c.1 i1
      rw [bo_f hl] at e1
      simp (disch := omega) only [c_Pe_end, b_Pe_end_0, b_Pe_end_5, b_Pe_end_8, b_Pe_end_13, b_Pe_end_16, b_Pe_end_19, b_Pe_end_28, b_Pe_end_32, b_Pe_end_35, b_Pe_end_46, tp0, tp1, tp2, tp3, tp4, tp5, tp6, tp7, tp8, tp9, hi0, hi1, hi2, li0, li1, li2, li3, li4, li5, li6, li7, e1, am_ck_T, am_ck_t, am_cif_t, am_cif_f, am_cif_T, am_cif_F, am_then_s, am_push_s, am_push_n, true_and, and_true, true_or, or_true, Int.cast_ofNat_Int, am_02, am_22, not_true_eq_false, not_false_eq_true]
    · have e1 := m_isLine hS hP c.1 i1
      rw [bo_f hl] at e1
      simp (disch := omega) only [c_Mo_end, b_Mo_end_0, b_Mo_end_5, b_Mo_end_8, b_Mo_end_13, b_Mo_end_16, b_Mo_end_19, b_Mo_end_26, b_Mo_end_30, b_Mo_end_33, b_Mo_end_37, mo0, mr0, mr1, mr2, mr3, mr4, mr5, mr6, mr7, mr8, mr9, mr10, mr11, mk0, mk1, mk2, mk3, mk4, mk5, mk6, mk7, mk8, mk9, mk10, mk11, e1, am_ck_T, am_ck_t, am_cif_t, am_cif_f, am_cif_T, am_cif_F, am_then_s, am_push_s, am_push_n, true_and, and_true, true_or, or_true, Int.cast_ofNat_Int, am_02, am_22, not_true_eq_false, not_false_eq_true]
/-- the bits beyond the persons are empty: eight are counted, or as many as there are persons -/
theorem vsum_cut {f : Int → Int} : ∀ (m n : Nat) (i : Int), (∀ j, i + n ≤ j → j < i + (n + m : Nat) → f j = 0) → vsum f (n + m) i = vsum f n i := by
  intro m
  induction m with
  | zero => intro n i _; rfl
  | succ m ih =>
    intro n i h
    rw [show n + (m + 1) = (n + m) + 1 from rfl, vsum_end, ih n i (fun j h1 h2 => h j h1 (by omega)), h (i + ((n + m : Nat) : Int)) (by omega) (by omega)]
    exact Int.add_zero _
theorem p_die (hS : ly S) {p : Int} (i1 : am_Ri p) : Pr S 75 145 [am_i p] := by
  intro B X h0 h1 ok
  obtain ⟨tp0, tp1, tp2, tp3, tp4, tp5, tp6, tp7, tp8, tp9⟩ := hS.1
  obtain ⟨hi0, hi1, hi2, hi3⟩ := hS.2.2.2.2.2.1
  obtain ⟨mo0, ⟨mr0, mr1, mr2, mr3, mr4, mr5, mr6, mr7, mr8, mr9, mr10, mr11⟩, mk0, mk1, mk2, mk3, mk4, mk5, mk6, mk7, mk8, mk9, mk10, mk11⟩ := hS.2.2.2.2.2.2.2.2.2.2
  have hP := ok.1
  have hR := ok.2.1
  have hP1 := hP.1
  have hP2 := hP.2.1
  have hP3 := hP.2.2.1
  have hP4 := hP.2.2.2.1
  have lf14 : lf 14 := by unfold lf; omega
  obtain ⟨li0, li1, li2, li3, li4, li5, li6, li7⟩ := hS.2.2.2.2.1 14 lf14
  by_cases hp : 0 ≤ p ∧ p < vnp (xP X)
  · by_cases hv : vlv (xR X) p
    · obtain ⟨d1, d2, d3⟩ := hR.2.2.2.2
      have hbit := d3.2.2.2.2
      have key : ∀ d : Int, vdd (xR X) = d → ∃ D : Fin 256, am_or d (am_shl 1 p) = (D.val : Int) ∧ ∀ q, vnp (xP X) ≤ q → q < 8 → am_and (am_shr (D.val : Int) q) 1 = 0 := by
        intro d hd
        have u := bt_or ⟨d.toNat, by omega⟩ ⟨p.toNat, by omega⟩
        have w := bt_or2 ⟨d.toNat, by omega⟩ ⟨p.toNat, by omega⟩
        have c1 : ((d.toNat : Nat) : Int) = d := by omega
        have c2 : ((p.toNat : Nat) : Int) = p := by omega
        rw [c1, c2] at u
        have c3 : (((am_or d (am_shl 1 p)).toNat : Nat) : Int) = am_or d (am_shl 1 p) := by omega
        refine ⟨⟨(am_or d (am_shl 1 p)).toNat, by omega⟩, c3.symm, fun q q1 q2 => ?_⟩
        have x := w ⟨q.toNat, by omega⟩
        have c4 : ((q.toNat : Nat) : Int) = q := by omega
        rw [c1, c2, c4] at x
        rw [c3, x, if_neg (fun e => by have := congrArg Fin.val e; simp only at this; omega), ← hd]
        exact hbit q q1 q2
      obtain ⟨D, k1, k2⟩ := key _ rfl
      have okr : okR (xP X) B (vSd (xR X) (D.val : Int)) := okR_Sd hR (by omega) k2
      have okr2 : okX B (xP X, vSd (xR X) (D.val : Int), vrem (xH X) (xR X), X.2.2.2) := okX_row (okX_rem ok) (by omega) okr
      have hs : vsum (fun q => am_and (am_shr (D.val : Int) q) 1) 8 0 = vsum (fun q => am_and (am_shr (D.val : Int) q) 1) (vnp (xP X)).toNat 0 := by
        have := vsum_cut (f := fun q => am_and (am_shr (D.val : Int) q) 1) (8 - (vnp (xP X)).toNat) (vnp (xP X)).toNat 0 (fun j h1 h2 => k2 j (by omega) (by omega))
        rw [show (vnp (xP X)).toNat + (8 - (vnp (xP X)).toNat) = 8 by omega] at this
        exact this
      have rs := vsum_rng (f := fun q => am_and (am_shr (D.val : Int) q) 1) (K := 1) (by omega) 8 0 (fun j _ _ => by have := am_bit_01 (am_shr (D.val : Int) j); show 0 ≤ am_and (am_shr (D.val : Int) j) 1 ∧ am_and (am_shr (D.val : Int) j) 1 ≤ 1; omega)
      refine ⟨vsum (fun q => am_and (am_shr (D.val : Int) q) 1) 8 0, (xP X, vSd (xR X) (D.val : Int), vrem (xH X) (xR X), X.2.2.2), ⟨by omega, by omega⟩, okX_B okr2 (by omega), fun M c => ?_, fun M c => ?_⟩
      · have e1 := k_isPerson hS hP c.1 i1
        have e2 := k_lives hS lf14 c.2.1 p
        rw [bo_t hp] at e1
        rw [bo_t hv] at e2
        obtain ⟨M1, f1, f2, f3⟩ := k_remember hS ok c
        have e3 : M1 14 4 = vdd (xR X) := f2.2.1.2.2.2.1
        have e4 := bt_cnt (S := S) (M := am_wr M1 14 4 (D.val : Int)) D
        refine ⟨am_wr M1 14 4 (D.val : Int), ?_, CX_row f2 (fr_wr (by omega)) (cR_Sd f2.2.1 _), fr_tr (fr_mono f3 (by omega) (by omega)) (fr_wr (by omega))⟩
        simp (disch := omega) only [c_Pe_die, b_Pe_die_0, b_Pe_die_5, b_Pe_die_8, b_Pe_die_11, b_Pe_die_19, b_Pe_die_22, b_Pe_die_25, b_Pe_die_36, b_Pe_die_61, tp0, tp1, tp2, tp3, tp4, tp5, tp6, tp7, tp8, tp9, hi0, hi1, hi2, li0, li1, li2, li3, li4, li5, li6, li7, e1, e2, f1, e3, k1, am_wr_s, e4, am_ck_T, am_ck_t, am_cif_t, am_cif_f, am_cif_T, am_cif_F, am_then_s, am_push_s, am_push_n, true_and, and_true, true_or, or_true, Int.cast_ofNat_Int, am_02, am_22, not_true_eq_false, not_false_eq_true]
      · have e1 := m_isPerson hS hP c.1 i1
        have e2 := m_isDead hS c.2.1 (by omega) p
        rw [bo_t hp] at e1
        rw [bo_f (not_not_intro hv)] at e2
        obtain ⟨M1, f1, f2, f3⟩ := m_remember hS ok c
        have e3 : M1 165 78 = vdd (xR X) := f2.2.1.2.2.2.1
        have e5 : mR (xP X) (vSd (xR X) (D.val : Int)) 0 (am_wr M1 165 78 (D.val : Int)) := mR_Sd hP f2.2.1 _
        have c5 : MX (xP X, vSd (xR X) (D.val : Int), vrem (xH X) (xR X), X.2.2.2) (am_wr M1 165 78 (D.val : Int)) := MX_row (X := (xP X, xR X, vrem (xH X) (xR X), X.2.2.2)) hP f2 (fx_wr (by omega)) e5
        have np : am_wr M1 165 78 (D.val : Int) 164 6 = vnp (xP X) := c5.1.1
        refine ⟨am_wr M1 165 78 (D.val : Int), ?_, c5, fr_tr (fr_mono f3 (by omega) (by omega)) (fr_wr (by omega))⟩
        have loop : ∀ (n : Nat) (q a : Int) (o : Option am_V), 0 ≤ q → q + n = vnp (xP X) → am_R 145 44 [some (am_r 164), o, some (am_i a), some (am_i q)] [] S (am_wr M1 165 78 (D.val : Int)) = some (some (am_i (a + vsum (fun q => am_and (am_shr (D.val : Int) q) 1) n q)), S, am_wr M1 165 78 (D.val : Int)) := by
          intro n
          induction n with
          | zero =>
            intro q a o hq hn
            rw [b_Mo_die_44]
            simp (disch := omega) only [b_Mo_die_70, mo0, mr0, mr1, mr2, mr3, mr4, mr5, mr6, mr7, mr8, mr9, mr10, mr11, mk0, mk1, mk2, mk3, mk4, mk5, mk6, mk7, mk8, mk9, mk10, mk11, np, vsum, Int.add_zero, am_ck_T, am_ck_t, am_cif_t, am_cif_f, am_cif_T, am_cif_F, am_then_s, am_push_s, am_push_n, true_and, and_true, true_or, or_true, Int.cast_ofNat_Int, am_02, am_22, not_true_eq_false, not_false_eq_true]
          | succ n ih =>
            intro q a o hq hn
            have g1 := m_isDead hS c5.2.1 (by omega) q
            have b1 := am_bit_01 (am_shr (D.val : Int) q)
            have g2 : bo (¬ vlv (vSd (xR X) (D.val : Int)) q) = am_and (am_shr (D.val : Int) q) 1 := by
              rcases b1 with b1 | b1
              · rw [b1]; exact bo_f (not_not_intro b1)
              · rw [b1]; exact bo_t (fun h => by have h' : am_and (am_shr (D.val : Int) q) 1 = 0 := h; omega)
            rw [show xR (xP X, vSd (xR X) (D.val : Int), vrem (xH X) (xR X), X.2.2.2) = vSd (xR X) (D.val : Int) from rfl, g2] at g1
            have g3 := m_one (S := S) (M := am_wr M1 165 78 (D.val : Int)) b1
            have g4 := ih (q + 1) (a + am_and (am_shr (D.val : Int) q) 1) o (by omega) (by omega)
            rw [b_Mo_die_44]
            simp (disch := omega) only [b_Mo_die_52, b_Mo_die_59, b_Mo_die_62, mo0, mr0, mr1, mr2, mr3, mr4, mr5, mr6, mr7, mr8, mr9, mr10, mr11, mk0, mk1, mk2, mk3, mk4, mk5, mk6, mk7, mk8, mk9, mk10, mk11, np, g1, g3, g4, vsum, Int.add_assoc, am_ck_T, am_ck_t, am_cif_t, am_cif_f, am_cif_T, am_cif_F, am_then_s, am_push_s, am_push_n, true_and, and_true, true_or, or_true, Int.cast_ofNat_Int, am_02, am_22, not_true_eq_false, not_false_eq_true]
        have l0 := loop (vnp (xP X)).toNat 0 0 (some (am_i p)) (by omega) (by omega)
        rw [← hs, Int.zero_add] at l0
        simp (disch := omega) only [c_Mo_die, b_Mo_die_0, b_Mo_die_5, b_Mo_die_11, b_Mo_die_17, b_Mo_die_23, b_Mo_die_27, mo0, mr0, mr1, mr2, mr3, mr4, mr5, mr6, mr7, mr8, mr9, mr10, mr11, mk0, mk1, mk2, mk3, mk4, mk5, mk6, mk7, mk8, mk9, mk10, mk11, e1, e2, f1, e3, k1, l0, am_ck_T, am_ck_t, am_cif_t, am_cif_f, am_cif_T, am_cif_F, am_then_s, am_push_s, am_push_n, true_and, and_true, true_or, or_true, Int.cast_ofNat_Int, am_02, am_22, not_true_eq_false, not_false_eq_true]
    · refine ⟨-1000000003, X, ⟨by omega, by omega⟩, okX_B ok (by omega), CC_id (fun M c => ?_), MM_id (fun M c => ?_)⟩
      · have e1 := k_isPerson hS hP c.1 i1
        have e2 := k_lives hS lf14 c.2.1 p
        rw [bo_t hp] at e1
        rw [bo_f hv] at e2
        simp (disch := omega) only [c_Pe_die, b_Pe_die_0, b_Pe_die_5, b_Pe_die_8, b_Pe_die_11, b_Pe_die_19, b_Pe_die_22, b_Pe_die_25, b_Pe_die_36, b_Pe_die_61, tp0, tp1, tp2, tp3, tp4, tp5, tp6, tp7, tp8, tp9, hi0, hi1, hi2, li0, li1, li2, li3, li4, li5, li6, li7, e1, e2, am_ck_T, am_ck_t, am_cif_t, am_cif_f, am_cif_T, am_cif_F, am_then_s, am_push_s, am_push_n, true_and, and_true, true_or, or_true, Int.cast_ofNat_Int, am_02, am_22, not_true_eq_false, not_false_eq_true]
      · have e1 := m_isPerson hS hP c.1 i1
        have e2 := m_isDead hS c.2.1 (by omega) p
        rw [bo_t hp] at e1
        rw [bo_t hv] at e2
        simp (disch := omega) only [c_Mo_die, b_Mo_die_0, b_Mo_die_5, b_Mo_die_11, b_Mo_die_17, b_Mo_die_20, mo0, mr0, mr1, mr2, mr3, mr4, mr5, mr6, mr7, mr8, mr9, mr10, mr11, mk0, mk1, mk2, mk3, mk4, mk5, mk6, mk7, mk8, mk9, mk10, mk11, e1, e2, am_ck_T, am_ck_t, am_cif_t, am_cif_f, am_cif_T, am_cif_F, am_then_s, am_push_s, am_push_n, true_and, and_true, true_or, or_true, Int.cast_ofNat_Int, am_02, am_22, not_true_eq_false, not_false_eq_true]
  · refine ⟨-1000000001, X, ⟨by omega, by omega⟩, okX_B ok (by omega), CC_id (fun M c => ?_), MM_id (fun M c => ?_)⟩
    · have e1 := k_isPerson hS hP c.1 i1
      rw [bo_f hp] at e1
      simp (disch := omega) only [c_Pe_die, b_Pe_die_0, b_Pe_die_5, b_Pe_die_8, b_Pe_die_11, b_Pe_die_19, b_Pe_die_22, b_Pe_die_25, b_Pe_die_36, b_Pe_die_61, tp0, tp1, tp2, tp3, tp4, tp5, tp6, tp7, tp8, tp9, hi0, hi1, hi2, li0, li1, li2, li3, li4, li5, li6, li7, e1, am_ck_T, am_ck_t, am_cif_t, am_cif_f, am_cif_T, am_cif_F, am_then_s, am_push_s, am_push_n, true_and, and_true, true_or, or_true, Int.cast_ofNat_Int, am_02, am_22, not_true_eq_false, not_false_eq_true]
    · have e1 := m_isPerson hS hP c.1 i1
      rw [bo_f hp] at e1
      simp (disch := omega) only [c_Mo_die, b_Mo_die_0, b_Mo_die_5, b_Mo_die_8, mo0, mr0, mr1, mr2, mr3, mr4, mr5, mr6, mr7, mr8, mr9, mr10, mr11, mk0, mk1, mk2, mk3, mk4, mk5, mk6, mk7, mk8, mk9, mk10, mk11, e1, am_ck_T, am_ck_t, am_cif_t, am_cif_f, am_cif_T, am_cif_F, am_then_s, am_push_s, am_push_n, true_and, and_true, true_or, or_true, Int.cast_ofNat_Int, am_02, am_22, not_true_eq_false, not_false_eq_true]
end OPS3
