/-! line, seed, ride, sleep -/
section OPS2
variable {S : am_S} {M : am_M} {X : vX} {B : Int} {P : vP}
theorem p_line (hS : ly S) {l k : Int} (i1 : am_Ri l) (i2 : am_Ri k) : Pr S 70 134 [am_i l, am_i k] := by
  intro B X h0 h1 ok
  obtain ⟨tp0, tp1, tp2, tp3, tp4, tp5, tp6, tp7, tp8, tp9⟩ := hS.1
  obtain ⟨pl0, pl1, pl2, pl3, pl4, pl5, pl6, pl7, pl8⟩ := hS.2.1
  obtain ⟨mo0, ⟨mr0, mr1, mr2, mr3, mr4, mr5, mr6, mr7, mr8, mr9, mr10, mr11⟩, mk0, mk1, mk2, mk3, mk4, mk5, mk6, mk7, mk8, mk9, mk10, mk11⟩ := hS.2.2.2.2.2.2.2.2.2.2
  have hP := ok.1
  have hR := ok.2.1
  have hP1 := hP.1
  have hP2 := hP.2.1
  have hP3 := hP.2.2.1
  have hP4 := hP.2.2.2.1
  have lf14 : lf 14 := by unfold lf; omega
  have li0 := (hS.2.2.2.2.1 14 lf14).1
  by_cases hl : 0 ≤ l ∧ l < vnl (xP X)
  · have s1 := hP.2.2.2.2.1 l hl.1 hl.2
    by_cases ha : k = -2
    · refine ⟨vfr (xP X) l, X, ⟨by omega, by omega⟩, okX_B ok (by omega), CC_id (fun M c => ?_), MM_id (fun M c => ?_)⟩
      · have e1 := k_isLine hS hP c.1 i1
        have e2 := (c.1.2.2.1 l hl.1 hl.2).2
        rw [bo_t hl] at e1
        subst ha
        simp (disch := omega) only [c_Pe_line, b_Pe_line_0, b_Pe_line_5, b_Pe_line_8, b_Pe_line_11, b_Pe_line_17, b_Pe_line_27, b_Pe_line_32, b_Pe_line_42, b_Pe_line_48, b_Pe_line_51, b_Pe_line_54, b_Pe_line_63, tp0, tp1, tp2, tp3, tp4, tp5, tp6, tp7, tp8, tp9, pl0, pl1, pl2, pl3, pl4, pl5, pl6, pl7, pl8, e1, e2, am_ck_T, am_ck_t, am_cif_t, am_cif_f, am_cif_T, am_cif_F, am_then_s, am_push_s, am_push_n, true_and, and_true, true_or, or_true, Int.cast_ofNat_Int, am_02, am_22, not_true_eq_false, not_false_eq_true]
      · have e1 := m_isLine hS hP c.1 i1
        have e2 := (c.1.2.2.1 l hl.1 hl.2).2
        rw [bo_t hl] at e1
        subst ha
        simp (disch := omega) only [c_Mo_line, b_Mo_line_0, b_Mo_line_5, b_Mo_line_8, b_Mo_line_11, b_Mo_line_16, b_Mo_line_23, b_Mo_line_29, b_Mo_line_38, b_Mo_line_53, b_Mo_line_56, b_Mo_line_63, b_Mo_line_66, b_Mo_line_68, mo0, mr0, mr1, mr2, mr3, mr4, mr5, mr6, mr7, mr8, mr9, mr10, mr11, mk0, mk1, mk2, mk3, mk4, mk5, mk6, mk7, mk8, mk9, mk10, mk11, e1, e2, am_ck_T, am_ck_t, am_cif_t, am_cif_f, am_cif_T, am_cif_F, am_then_s, am_push_s, am_push_n, true_and, and_true, true_or, or_true, Int.cast_ofNat_Int, am_02, am_22, not_true_eq_false, not_false_eq_true]
    · by_cases hb : k = -1
      · refine ⟨vsz (xP X) l, X, ⟨by omega, by omega⟩, okX_B ok (by omega), CC_id (fun M c => ?_), MM_id (fun M c => ?_)⟩
        · have e1 := k_isLine hS hP c.1 i1
          have e2 := (c.1.2.2.1 l hl.1 hl.2).1
          rw [bo_t hl] at e1
          subst hb
          simp (disch := omega) only [c_Pe_line, b_Pe_line_0, b_Pe_line_5, b_Pe_line_8, b_Pe_line_11, b_Pe_line_17, b_Pe_line_27, b_Pe_line_32, b_Pe_line_42, b_Pe_line_48, b_Pe_line_51, b_Pe_line_54, b_Pe_line_63, tp0, tp1, tp2, tp3, tp4, tp5, tp6, tp7, tp8, tp9, pl0, pl1, pl2, pl3, pl4, pl5, pl6, pl7, pl8, e1, e2, am_ck_T, am_ck_t, am_cif_t, am_cif_f, am_cif_T, am_cif_F, am_then_s, am_push_s, am_push_n, true_and, and_true, true_or, or_true, Int.cast_ofNat_Int, am_02, am_22, not_true_eq_false, not_false_eq_true]
        · have e1 := m_isLine hS hP c.1 i1
          have e2 := (c.1.2.2.1 l hl.1 hl.2).1
          rw [bo_t hl] at e1
          subst hb
          simp (disch := omega) only [c_Mo_line, b_Mo_line_0, b_Mo_line_5, b_Mo_line_8, b_Mo_line_11, b_Mo_line_16, b_Mo_line_23, b_Mo_line_29, b_Mo_line_38, b_Mo_line_53, b_Mo_line_56, b_Mo_line_63, b_Mo_line_66, b_Mo_line_68, mo0, mr0, mr1, mr2, mr3, mr4, mr5, mr6, mr7, mr8, mr9, mr10, mr11, mk0, mk1, mk2, mk3, mk4, mk5, mk6, mk7, mk8, mk9, mk10, mk11, e1, e2, am_ck_T, am_ck_t, am_cif_t, am_cif_f, am_cif_T, am_cif_F, am_then_s, am_push_s, am_push_n, true_and, and_true, true_or, or_true, Int.cast_ofNat_Int, am_02, am_22, not_true_eq_false, not_false_eq_true]
      · by_cases hk : 0 ≤ k ∧ k < vsz (xP X) l
        · have r := vsp_rng hP hR hl.1 hl.2 hk.1 hk.2
          refine ⟨vsp (xP X) (xR X) l k, X, ⟨by omega, by omega⟩, okX_B ok (by omega), CC_id (fun M c => ?_), MM_id (fun M c => ?_)⟩
          · have e1 := k_isLine hS hP c.1 i1
            have e2 := k_isStop hS hP c.1 hl i2
            have e3 := k_stop hS lf14 hP c.1 c.2.1 hl.1 hl.2 hk.1 hk.2
            rw [bo_t hl] at e1
            rw [bo_t hk] at e2
            simp (disch := omega) only [c_Pe_line, b_Pe_line_0, b_Pe_line_5, b_Pe_line_8, b_Pe_line_11, b_Pe_line_17, b_Pe_line_27, b_Pe_line_32, b_Pe_line_42, b_Pe_line_48, b_Pe_line_51, b_Pe_line_54, b_Pe_line_63, tp0, tp1, tp2, tp3, tp4, tp5, tp6, tp7, tp8, tp9, pl0, pl1, pl2, pl3, pl4, pl5, pl6, pl7, pl8, li0, e1, e2, e3, am_ck_T, am_ck_t, am_cif_t, am_cif_f, am_cif_T, am_cif_F, am_then_s, am_push_s, am_push_n, true_and, and_true, true_or, or_true, Int.cast_ofNat_Int, am_02, am_22, not_true_eq_false, not_false_eq_true]
          · have e1 := m_isLine hS hP c.1 i1
            have e2 := m_in (S := S) (M := M) (v := k) (lo := 0) (hi := vsz (xP X) l - 1) ⟨by omega, by omega⟩ ⟨by omega, by omega⟩ ⟨by omega, by omega⟩
            have e3 := m_stop hS hP c.1 c.2.1 (by omega) hl.1 hl.2 hk.1 hk.2
            have e4 := (c.1.2.2.1 l hl.1 hl.2).1
            rw [bo_t hl] at e1
            rw [bo_t (by omega)] at e2
            simp (disch := omega) only [c_Mo_line, b_Mo_line_0, b_Mo_line_5, b_Mo_line_8, b_Mo_line_11, b_Mo_line_16, b_Mo_line_23, b_Mo_line_29, b_Mo_line_38, b_Mo_line_53, b_Mo_line_56, b_Mo_line_63, b_Mo_line_66, b_Mo_line_68, mo0, mr0, mr1, mr2, mr3, mr4, mr5, mr6, mr7, mr8, mr9, mr10, mr11, mk0, mk1, mk2, mk3, mk4, mk5, mk6, mk7, mk8, mk9, mk10, mk11, e1, e2, e3, e4, am_ck_T, am_ck_t, am_cif_t, am_cif_f, am_cif_T, am_cif_F, am_then_s, am_push_s, am_push_n, true_and, and_true, true_or, or_true, Int.cast_ofNat_Int, am_02, am_22, not_true_eq_false, not_false_eq_true]
        · refine ⟨-1000000002, X, ⟨by omega, by omega⟩, okX_B ok (by omega), CC_id (fun M c => ?_), MM_id (fun M c => ?_)⟩
          · have e1 := k_isLine hS hP c.1 i1
            have e2 := k_isStop hS hP c.1 hl i2
            rw [bo_t hl] at e1
            rw [bo_f hk] at e2
            simp (disch := omega) only [c_Pe_line, b_Pe_line_0, b_Pe_line_5, b_Pe_line_8, b_Pe_line_11, b_Pe_line_17, b_Pe_line_27, b_Pe_line_32, b_Pe_line_42, b_Pe_line_48, b_Pe_line_51, b_Pe_line_54, b_Pe_line_63, tp0, tp1, tp2, tp3, tp4, tp5, tp6, tp7, tp8, tp9, pl0, pl1, pl2, pl3, pl4, pl5, pl6, pl7, pl8, li0, e1, e2, am_ck_T, am_ck_t, am_cif_t, am_cif_f, am_cif_T, am_cif_F, am_then_s, am_push_s, am_push_n, true_and, and_true, true_or, or_true, Int.cast_ofNat_Int, am_02, am_22, not_true_eq_false, not_false_eq_true]
          · have e1 := m_isLine hS hP c.1 i1
            have e2 := m_in (S := S) (M := M) (v := k) (lo := 0) (hi := vsz (xP X) l - 1) ⟨by omega, by omega⟩ ⟨by omega, by omega⟩ ⟨by omega, by omega⟩
            have e4 := (c.1.2.2.1 l hl.1 hl.2).1
            rw [bo_t hl] at e1
            rw [bo_f (by omega)] at e2
            simp (disch := omega) only [c_Mo_line, b_Mo_line_0, b_Mo_line_5, b_Mo_line_8, b_Mo_line_11, b_Mo_line_16, b_Mo_line_23, b_Mo_line_29, b_Mo_line_38, b_Mo_line_53, b_Mo_line_56, b_Mo_line_63, b_Mo_line_66, b_Mo_line_68, mo0, mr0, mr1, mr2, mr3, mr4, mr5, mr6, mr7, mr8, mr9, mr10, mr11, mk0, mk1, mk2, mk3, mk4, mk5, mk6, mk7, mk8, mk9, mk10, mk11, e1, e2, e4, am_ck_T, am_ck_t, am_cif_t, am_cif_f, am_cif_T, am_cif_F, am_then_s, am_push_s, am_push_n, true_and, and_true, true_or, or_true, Int.cast_ofNat_Int, am_02, am_22, not_true_eq_false, not_false_eq_true]
  · refine ⟨-1000000001, X, ⟨by omega, by omega⟩, okX_B ok (by omega), CC_id (fun M c => ?_), MM_id (fun M c => ?_)⟩
    · have e1 := k_isLine hS hP c.1 i1
      rw [bo_f hl] at e1
      simp (disch := omega) only [c_Pe_line, b_Pe_line_0, b_Pe_line_5, b_Pe_line_8, b_Pe_line_11, b_Pe_line_17, b_Pe_line_27, b_Pe_line_32, b_Pe_line_42, b_Pe_line_48, b_Pe_line_51, b_Pe_line_54, b_Pe_line_63, tp0, tp1, tp2, tp3, tp4, tp5, tp6, tp7, tp8, tp9, e1, am_ck_T, am_ck_t, am_cif_t, am_cif_f, am_cif_T, am_cif_F, am_then_s, am_push_s, am_push_n, true_and, and_true, true_or, or_true, Int.cast_ofNat_Int, am_02, am_22, not_true_eq_false, not_false_eq_true]
    · have e1 := m_isLine hS hP c.1 i1
      rw [bo_f hl] at e1
      simp (disch := omega) only [c_Mo_line, b_Mo_line_0, b_Mo_line_5, b_Mo_line_8, b_Mo_line_11, b_Mo_line_16, b_Mo_line_23, b_Mo_line_29, b_Mo_line_38, b_Mo_line_53, b_Mo_line_56, b_Mo_line_63, b_Mo_line_66, b_Mo_line_68, mo0, mr0, mr1, mr2, mr3, mr4, mr5, mr6, mr7, mr8, mr9, mr10, mr11, mk0, mk1, mk2, mk3, mk4, mk5, mk6, mk7, mk8, mk9, mk10, mk11, e1, am_ck_T, am_ck_t, am_cif_t, am_cif_f, am_cif_T, am_cif_F, am_then_s, am_push_s, am_push_n, true_and, and_true, true_or, or_true, Int.cast_ofNat_Int, am_02, am_22, not_true_eq_false, not_false_eq_true]
/-- the seed alone changes -/
def vSD (X : vX) (v : Int) : vX := (X.1, X.2.1, X.2.2.1, X.2.2.2.1, X.2.2.2.2.1, X.2.2.2.2.2.1, X.2.2.2.2.2.2.1, X.2.2.2.2.2.2.2.1, v)
theorem CX_seed (c : CX X M) (v : Int) : CX (vSD X v) (am_wr M 1 10 v) := by
  obtain ⟨a1, a2, a3, a4, a5, a6, a7, a8, a9, a10⟩ := c
  have e : ∀ k, k ≠ 1 → ∀ j, am_wr M 1 10 v k j = M k j := fun k hk j => am_wr_k hk
  exact ⟨⟨(e 2 (by omega) 0).trans a1.1, (e 2 (by omega) 1).trans a1.2.1, fun l u w => ⟨(e 5 (by omega) l).trans (a1.2.2.1 l u w).1, (e 4 (by omega) l).trans (a1.2.2.1 l u w).2⟩, fun l k u w s t => (e 6 (by omega) _).trans (a1.2.2.2 l k u w s t)⟩, cR_fr (fun k h1 h2 => e k (by omega)) a2, cH_fr (fun k h1 h2 => e k (by omega)) a3, cI_fr (fun k h1 h2 => e k (by omega)) a4, cI_fr (fun k h1 h2 => e k (by omega)) a5, cS_fr (fun k h1 h2 => e k (by omega)) a6, cB_fr (fun k h1 h2 => e k (by omega)) a7, cT_fr (e 7 (by omega)) (e 13 (by omega)) a8, (am_wr_i (by omega)).trans a9, am_wr_s⟩
theorem MX_seed (hP : okP (xP X)) (c : MX X M) (v : Int) : MX (vSD X v) (am_wr M 165 81 v) := by
  obtain ⟨a1, a2, a3, a4, a5, a6, a7, a8, a9, a10⟩ := c
  have e : ∀ k, k ≠ 165 → ∀ j, am_wr M 165 81 v k j = M k j := fun k hk j => am_wr_k hk
  have e2 : ∀ j, j ≠ 81 → am_wr M 165 81 v 165 j = M 165 j := fun j hj => am_wr_i hj
  exact ⟨mP_fr (fun k hk => e k (by omega)) a1, mR_fr hP (fun j _ _ => e2 j (by omega)) a2, mH_fr hP (e 164 (by omega)) (fun j _ => e2 j (by omega)) a3, mI_fr hP (e 166 (by omega)) (fun j _ _ => e2 j (by omega)) a4, mI_fr hP (e 166 (by omega)) (fun j _ _ => e2 j (by omega)) a5, mS_fr (fun k hk => e k (by omega)) a6, mB_fr (fun k hk => e k (by omega)) a7, mT_fr (fun k hk => e k (by omega)) a8, (e 164 (by omega) 15).trans a9, am_wr_s⟩
theorem okX_seed (ok : okX B X) {v : Int} (h : 0 ≤ v ∧ v ≤ 2147483647) : okX B (vSD X v) := by
  obtain ⟨a1, a2, a3, a4, a5, a6, a7, a8, a9, a10, a11⟩ := ok
  exact ⟨a1, a2, a3, a4, a5, a6, a7, a8, a9, a10, h⟩
theorem p_seed (hS : ly S) {v : Int} (i1 : am_Ri v) : Pr S 92 175 [am_i v] := by
  intro B X h0 h1 ok
  obtain ⟨tp0, tp1, tp2, tp3, tp4, tp5, tp6, tp7, tp8, tp9⟩ := hS.1
  obtain ⟨mo0, ⟨mr0, mr1, mr2, mr3, mr4, mr5, mr6, mr7, mr8, mr9, mr10, mr11⟩, mk0, mk1, mk2, mk3, mk4, mk5, mk6, mk7, mk8, mk9, mk10, mk11⟩ := hS.2.2.2.2.2.2.2.2.2.2
  have hP := ok.1
  have r := ok.2.2.2.2.2.2.2.2.2.2
  by_cases hv : 0 ≤ v
  · refine ⟨xD X, vSD X v, ⟨by omega, by omega⟩, okX_B (okX_seed ok ⟨hv, i1.2⟩) (by omega), fun M c => ⟨_, ?_, CX_seed c v, fr_wr (by omega)⟩, fun M c => ⟨_, ?_, MX_seed hP c v, fr_wr (by omega)⟩⟩
    · have e := c.2.2.2.2.2.2.2.2.2
      simp (disch := omega) only [c_Pe_seed, b_Pe_seed_0, b_Pe_seed_4, b_Pe_seed_7, tp0, tp1, tp2, tp3, tp4, tp5, tp6, tp7, tp8, tp9, e, am_ck_T, am_ck_t, am_cif_t, am_cif_f, am_cif_T, am_cif_F, am_then_s, am_push_s, am_push_n, true_and, and_true, true_or, or_true, Int.cast_ofNat_Int, am_02, am_22, not_true_eq_false, not_false_eq_true]
    · have e := c.2.2.2.2.2.2.2.2.2
      simp (disch := omega) only [c_Mo_seed, b_Mo_seed_0, b_Mo_seed_4, b_Mo_seed_7, mo0, mr0, mr1, mr2, mr3, mr4, mr5, mr6, mr7, mr8, mr9, mr10, mr11, mk0, mk1, mk2, mk3, mk4, mk5, mk6, mk7, mk8, mk9, mk10, mk11, e, am_ck_T, am_ck_t, am_cif_t, am_cif_f, am_cif_T, am_cif_F, am_then_s, am_push_s, am_push_n, true_and, and_true, true_or, or_true, Int.cast_ofNat_Int, am_02, am_22, not_true_eq_false, not_false_eq_true]
  · refine ⟨-1000000002, X, ⟨by omega, by omega⟩, okX_B ok (by omega), CC_id (fun M c => ?_), MM_id (fun M c => ?_)⟩
    · simp (disch := omega) only [c_Pe_seed, b_Pe_seed_0, b_Pe_seed_4, b_Pe_seed_7, tp0, tp1, tp2, tp3, tp4, tp5, tp6, tp7, tp8, tp9, am_ck_T, am_ck_t, am_cif_t, am_cif_f, am_cif_T, am_cif_F, am_then_s, am_push_s, am_push_n, true_and, and_true, true_or, or_true, Int.cast_ofNat_Int, am_02, am_22, not_true_eq_false, not_false_eq_true]
    · simp (disch := omega) only [c_Mo_seed, b_Mo_seed_0, b_Mo_seed_4, b_Mo_seed_7, mo0, mr0, mr1, mr2, mr3, mr4, mr5, mr6, mr7, mr8, mr9, mr10, mr11, mk0, mk1, mk2, mk3, mk4, mk5, mk6, mk7, mk8, mk9, mk10, mk11, am_ck_T, am_ck_t, am_cif_t, am_cif_f, am_cif_T, am_cif_F, am_then_s, am_push_s, am_push_n, true_and, and_true, true_or, or_true, Int.cast_ofNat_Int, am_02, am_22, not_true_eq_false, not_false_eq_true]
theorem p_ride (hS : ly S) {p l n : Int} (i1 : am_Ri p) (i2 : am_Ri l) (i3 : am_Ri n) : Pr S 71 139 [am_i p, am_i l, am_i n] := by
  intro B X h0 h1 ok
  obtain ⟨tp0, tp1, tp2, tp3, tp4, tp5, tp6, tp7, tp8, tp9⟩ := hS.1
  obtain ⟨hi0, hi1, hi2, hi3⟩ := hS.2.2.2.2.2.1
  obtain ⟨mo0, ⟨mr0, mr1, mr2, mr3, mr4, mr5, mr6, mr7, mr8, mr9, mr10, mr11⟩, mk0, mk1, mk2, mk3, mk4, mk5, mk6, mk7, mk8, mk9, mk10, mk11⟩ := hS.2.2.2.2.2.2.2.2.2.2
  have hP := ok.1
  have hR := ok.2.1
  have hP1 := hP.1
  have hP2 := hP.2.1
  have hP3 := hP.2.2.1
  have hP4 := hP.2.2.2.1
  have lf14 : lf 14 := by unfold lf; omega
  obtain ⟨li0, li1, li2, li3, li4, li5, li6, li7⟩ := hS.2.2.2.2.1 14 lf14
  by_cases hp : 0 ≤ p ∧ p < vnp (xP X)
  · by_cases hl : 0 ≤ l ∧ l < vnl (xP X)
    · have g1 := (hR.2.1 p hp.1 hp.2).2
      by_cases hn : 1 ≤ n ∧ n ≤ 5
      · by_cases hb : vlv (xR X) p ∧ vbp (xP X) (xR X) l (vgt (xR X) p) ≠ -1
        · have okr := okR_ride (n := n) hP hR hl.1 hl.2 hb.2
          have okr2 : okX (B + 1) (xP X, vride (xP X) (xR X) p l n, vrem (xH X) (xR X), X.2.2.2) := okX_row (okX_rem ok) (by omega) okr
          have r := (okr.2.1 p hp.1 hp.2).2
          refine ⟨vgt (vride (xP X) (xR X) p l n) p, (xP X, vride (xP X) (xR X) p l n, vrem (xH X) (xR X), X.2.2.2), ⟨by omega, by omega⟩, okX_B okr2 (by omega), fun M c => ?_, fun M c => ?_⟩
          · have e1 := k_isPerson hS hP c.1 i1
            have e2 := k_isLine hS hP c.1 i2
            have e3 := k_mayBoard hS lf14 hP hR c.1 c.2.1 hl.1 hl.2 hp.1 hp.2
            rw [bo_t hp] at e1
            rw [bo_t hl] at e2
            rw [bo_t hb] at e3
            obtain ⟨M1, d1, d2, d3⟩ := k_remember hS ok c
            obtain ⟨M2, f1, f2, f3⟩ := k_carry (n := n) hS lf14 hP hR d2.1 d2.2.1 hl.1 hl.2 hp.1 hp.2 hn.1 hn.2 hb.2
            have e4 := f2.2.1 p hp.1 hp.2
            refine ⟨M2, ?_, CX_row d2 f3 f2, fr_tr (fr_mono d3 (by omega) (by omega)) (fr_mono f3 (by omega) (by omega))⟩
            simp (disch := omega) only [c_Pe_ride, b_Pe_ride_0, b_Pe_ride_5, b_Pe_ride_8, b_Pe_ride_13, b_Pe_ride_16, b_Pe_ride_19, b_Pe_ride_24, b_Pe_ride_29, b_Pe_ride_32, b_Pe_ride_41, b_Pe_ride_44, b_Pe_ride_47, b_Pe_ride_58, b_Pe_ride_68, tp0, tp1, tp2, tp3, tp4, tp5, tp6, tp7, tp8, tp9, hi0, hi1, hi2, li0, li1, li2, li3, li4, li5, li6, li7, e1, e2, e3, d1, f1, e4, am_ck_T, am_ck_t, am_cif_t, am_cif_f, am_cif_T, am_cif_F, am_then_s, am_push_s, am_push_n, true_and, and_true, true_or, or_true, Int.cast_ofNat_Int, am_02, am_22, not_true_eq_false, not_false_eq_true]
          · have e1 := m_isPerson hS hP c.1 i1
            have e2 := m_isLine hS hP c.1 i2
            have e3 := m_isDead hS c.2.1 (by omega) p
            have e4 : M 165 (64 + p) = vgt (xR X) p := c.2.1.2.1 p hp.1 hp.2
            have e5 := m_canBoard hS hP hR c.1 c.2.1 (by omega) hl.1 hl.2 g1.1 g1.2
            have e6 := m_in (S := S) (M := M) (v := n) (lo := 1) (hi := 5) ⟨by omega, by omega⟩ ⟨by omega, by omega⟩ ⟨by omega, by omega⟩
            rw [bo_t hp] at e1
            rw [bo_t hl] at e2
            rw [bo_f (not_not_intro hb.1)] at e3
            rw [bo_t hb.2] at e5
            rw [bo_t hn] at e6
            obtain ⟨M1, d1, d2, d3⟩ := m_remember hS ok c
            obtain ⟨M2, f1, f2, f3⟩ := m_ride (n := n) hS hP hR d2.1 d2.2.1 (by omega) hl.1 hl.2 hp.1 hp.2 hn.1 hn.2 hb.2
            have e7 : M2 165 (64 + p) = vgt (vride (xP X) (xR X) p l n) p := f2.2.1 p hp.1 hp.2
            refine ⟨M2, ?_, MX_row (X := (xP X, xR X, vrem (xH X) (xR X), X.2.2.2)) hP d2 f3 f2, fr_tr (fr_mono d3 (by omega) (by omega)) (fr_mono f3.1 (by omega) (by omega))⟩
            simp (disch := omega) only [c_Mo_ride, b_Mo_ride_0, b_Mo_ride_5, b_Mo_ride_8, b_Mo_ride_13, b_Mo_ride_16, b_Mo_ride_19, b_Mo_ride_28, b_Mo_ride_31, b_Mo_ride_34, b_Mo_ride_40, b_Mo_ride_43, b_Mo_ride_58, b_Mo_ride_61, b_Mo_ride_64, b_Mo_ride_68, b_Mo_ride_76, mo0, mr0, mr1, mr2, mr3, mr4, mr5, mr6, mr7, mr8, mr9, mr10, mr11, mk0, mk1, mk2, mk3, mk4, mk5, mk6, mk7, mk8, mk9, mk10, mk11, e1, e2, e3, e4, e5, e6, d1, f1, e7, am_ck_T, am_ck_t, am_cif_t, am_cif_f, am_cif_T, am_cif_F, am_then_s, am_push_s, am_push_n, true_and, and_true, true_or, or_true, Int.cast_ofNat_Int, am_02, am_22, not_true_eq_false, not_false_eq_true]
        · refine ⟨-1000000003, X, ⟨by omega, by omega⟩, okX_B ok (by omega), CC_id (fun M c => ?_), MM_id (fun M c => ?_)⟩
          · have e1 := k_isPerson hS hP c.1 i1
            have e2 := k_isLine hS hP c.1 i2
            have e3 := k_mayBoard hS lf14 hP hR c.1 c.2.1 hl.1 hl.2 hp.1 hp.2
            rw [bo_t hp] at e1
            rw [bo_t hl] at e2
            rw [bo_f hb] at e3
            simp (disch := omega) only [c_Pe_ride, b_Pe_ride_0, b_Pe_ride_5, b_Pe_ride_8, b_Pe_ride_13, b_Pe_ride_16, b_Pe_ride_19, b_Pe_ride_24, b_Pe_ride_29, b_Pe_ride_32, b_Pe_ride_41, b_Pe_ride_44, b_Pe_ride_47, b_Pe_ride_58, b_Pe_ride_68, tp0, tp1, tp2, tp3, tp4, tp5, tp6, tp7, tp8, tp9, hi0, hi1, hi2, li0, li1, li2, li3, li4, li5, li6, li7, e1, e2, e3, am_ck_T, am_ck_t, am_cif_t, am_cif_f, am_cif_T, am_cif_F, am_then_s, am_push_s, am_push_n, true_and, and_true, true_or, or_true, Int.cast_ofNat_Int, am_02, am_22, not_true_eq_false, not_false_eq_true]
          · have e1 := m_isPerson hS hP c.1 i1
            have e2 := m_isLine hS hP c.1 i2
            have e3 := m_isDead hS c.2.1 (by omega) p
            have e4 : M 165 (64 + p) = vgt (xR X) p := c.2.1.2.1 p hp.1 hp.2
            have e5 := m_canBoard hS hP hR c.1 c.2.1 (by omega) hl.1 hl.2 g1.1 g1.2
            have e6 := m_in (S := S) (M := M) (v := n) (lo := 1) (hi := 5) ⟨by omega, by omega⟩ ⟨by omega, by omega⟩ ⟨by omega, by omega⟩
            rw [bo_t hp] at e1
            rw [bo_t hl] at e2
            rw [bo_t hn] at e6
            by_cases hv : vlv (xR X) p
            · rw [bo_f (not_not_intro hv)] at e3
              rw [bo_f (fun h => hb ⟨hv, h⟩)] at e5
              simp (disch := omega) only [c_Mo_ride, b_Mo_ride_0, b_Mo_ride_5, b_Mo_ride_8, b_Mo_ride_13, b_Mo_ride_16, b_Mo_ride_19, b_Mo_ride_28, b_Mo_ride_31, b_Mo_ride_34, b_Mo_ride_40, b_Mo_ride_43, b_Mo_ride_58, b_Mo_ride_61, b_Mo_ride_64, b_Mo_ride_68, b_Mo_ride_76, mo0, mr0, mr1, mr2, mr3, mr4, mr5, mr6, mr7, mr8, mr9, mr10, mr11, mk0, mk1, mk2, mk3, mk4, mk5, mk6, mk7, mk8, mk9, mk10, mk11, e1, e2, e3, e4, e5, e6, am_ck_T, am_ck_t, am_cif_t, am_cif_f, am_cif_T, am_cif_F, am_then_s, am_push_s, am_push_n, true_and, and_true, true_or, or_true, Int.cast_ofNat_Int, am_02, am_22, not_true_eq_false, not_false_eq_true]
            · rw [bo_t hv] at e3
              simp (disch := omega) only [c_Mo_ride, b_Mo_ride_0, b_Mo_ride_5, b_Mo_ride_8, b_Mo_ride_13, b_Mo_ride_16, b_Mo_ride_19, b_Mo_ride_28, b_Mo_ride_31, b_Mo_ride_34, b_Mo_ride_40, b_Mo_ride_43, b_Mo_ride_58, b_Mo_ride_61, b_Mo_ride_64, b_Mo_ride_68, b_Mo_ride_76, mo0, mr0, mr1, mr2, mr3, mr4, mr5, mr6, mr7, mr8, mr9, mr10, mr11, mk0, mk1, mk2, mk3, mk4, mk5, mk6, mk7, mk8, mk9, mk10, mk11, e1, e2, e3, e6, am_ck_T, am_ck_t, am_cif_t, am_cif_f, am_cif_T, am_cif_F, am_then_s, am_push_s, am_push_n, true_and, and_true, true_or, or_true, Int.cast_ofNat_Int, am_02, am_22, not_true_eq_false, not_false_eq_true]
      · refine ⟨-1000000002, X, ⟨by omega, by omega⟩, okX_B ok (by omega), CC_id (fun M c => ?_), MM_id (fun M c => ?_)⟩
        · have e1 := k_isPerson hS hP c.1 i1
          have e2 := k_isLine hS hP c.1 i2
          rw [bo_t hp] at e1
          rw [bo_t hl] at e2
          by_cases hn1 : n < 1
          · simp (disch := omega) only [c_Pe_ride, b_Pe_ride_0, b_Pe_ride_5, b_Pe_ride_8, b_Pe_ride_13, b_Pe_ride_16, b_Pe_ride_19, b_Pe_ride_24, b_Pe_ride_29, b_Pe_ride_32, b_Pe_ride_41, b_Pe_ride_44, b_Pe_ride_47, b_Pe_ride_58, b_Pe_ride_68, tp0, tp1, tp2, tp3, tp4, tp5, tp6, tp7, tp8, tp9, hi0, hi1, hi2, li0, li1, li2, li3, li4, li5, li6, li7, e1, e2, am_ck_T, am_ck_t, am_cif_t, am_cif_f, am_cif_T, am_cif_F, am_then_s, am_push_s, am_push_n, true_and, and_true, true_or, or_true, Int.cast_ofNat_Int, am_02, am_22, not_true_eq_false, not_false_eq_true]
          · simp (disch := omega) only [c_Pe_ride, b_Pe_ride_0, b_Pe_ride_5, b_Pe_ride_8, b_Pe_ride_13, b_Pe_ride_16, b_Pe_ride_19, b_Pe_ride_24, b_Pe_ride_29, b_Pe_ride_32, b_Pe_ride_41, b_Pe_ride_44, b_Pe_ride_47, b_Pe_ride_58, b_Pe_ride_68, tp0, tp1, tp2, tp3, tp4, tp5, tp6, tp7, tp8, tp9, hi0, hi1, hi2, li0, li1, li2, li3, li4, li5, li6, li7, e1, e2, am_ck_T, am_ck_t, am_cif_t, am_cif_f, am_cif_T, am_cif_F, am_then_s, am_push_s, am_push_n, true_and, and_true, true_or, or_true, Int.cast_ofNat_Int, am_02, am_22, not_true_eq_false, not_false_eq_true]
        · have e1 := m_isPerson hS hP c.1 i1
          have e2 := m_isLine hS hP c.1 i2
          have e6 := m_in (S := S) (M := M) (v := n) (lo := 1) (hi := 5) ⟨by omega, by omega⟩ ⟨by omega, by omega⟩ ⟨by omega, by omega⟩
          rw [bo_t hp] at e1
          rw [bo_t hl] at e2
          rw [bo_f hn] at e6
          simp (disch := omega) only [c_Mo_ride, b_Mo_ride_0, b_Mo_ride_5, b_Mo_ride_8, b_Mo_ride_13, b_Mo_ride_16, b_Mo_ride_19, b_Mo_ride_28, b_Mo_ride_31, b_Mo_ride_34, b_Mo_ride_40, b_Mo_ride_43, b_Mo_ride_58, b_Mo_ride_61, b_Mo_ride_64, b_Mo_ride_68, b_Mo_ride_76, mo0, mr0, mr1, mr2, mr3, mr4, mr5, mr6, mr7, mr8, mr9, mr10, mr11, mk0, mk1, mk2, mk3, mk4, mk5, mk6, mk7, mk8, mk9, mk10, mk11, e1, e2, e6, am_ck_T, am_ck_t, am_cif_t, am_cif_f, am_cif_T, am_cif_F, am_then_s, am_push_s, am_push_n, true_and, and_true, true_or, or_true, Int.cast_ofNat_Int, am_02, am_22, not_true_eq_false, not_false_eq_true]
    · refine ⟨-1000000001, X, ⟨by omega, by omega⟩, okX_B ok (by omega), CC_id (fun M c => ?_), MM_id (fun M c => ?_)⟩
      · have e1 := k_isPerson hS hP c.1 i1
        have e2 := k_isLine hS hP c.1 i2
        rw [bo_t hp] at e1
        rw [bo_f hl] at e2
        simp (disch := omega) only [c_Pe_ride, b_Pe_ride_0, b_Pe_ride_5, b_Pe_ride_8, b_Pe_ride_13, b_Pe_ride_16, b_Pe_ride_19, b_Pe_ride_24, b_Pe_ride_29, b_Pe_ride_32, b_Pe_ride_41, b_Pe_ride_44, b_Pe_ride_47, b_Pe_ride_58, b_Pe_ride_68, tp0, tp1, tp2, tp3, tp4, tp5, tp6, tp7, tp8, tp9, hi0, hi1, hi2, li0, li1, li2, li3, li4, li5, li6, li7, e1, e2, am_ck_T, am_ck_t, am_cif_t, am_cif_f, am_cif_T, am_cif_F, am_then_s, am_push_s, am_push_n, true_and, and_true, true_or, or_true, Int.cast_ofNat_Int, am_02, am_22, not_true_eq_false, not_false_eq_true]
      · have e1 := m_isPerson hS hP c.1 i1
        have e2 := m_isLine hS hP c.1 i2
        rw [bo_t hp] at e1
        rw [bo_f hl] at e2
        simp (disch := omega) only [c_Mo_ride, b_Mo_ride_0, b_Mo_ride_5, b_Mo_ride_8, b_Mo_ride_13, b_Mo_ride_16, b_Mo_ride_19, b_Mo_ride_28, b_Mo_ride_31, b_Mo_ride_34, b_Mo_ride_40, b_Mo_ride_43, b_Mo_ride_58, b_Mo_ride_61, b_Mo_ride_64, b_Mo_ride_68, b_Mo_ride_76, mo0, mr0, mr1, mr2, mr3, mr4, mr5, mr6, mr7, mr8, mr9, mr10, mr11, mk0, mk1, mk2, mk3, mk4, mk5, mk6, mk7, mk8, mk9, mk10, mk11, e1, e2, am_ck_T, am_ck_t, am_cif_t, am_cif_f, am_cif_T, am_cif_F, am_then_s, am_push_s, am_push_n, true_and, and_true, true_or, or_true, Int.cast_ofNat_Int, am_02, am_22, not_true_eq_false, not_false_eq_true]
  · refine ⟨-1000000001, X, ⟨by omega, by omega⟩, okX_B ok (by omega), CC_id (fun M c => ?_), MM_id (fun M c => ?_)⟩
    · have e1 := k_isPerson hS hP c.1 i1
      rw [bo_f hp] at e1
      simp (disch := omega) only [c_Pe_ride, b_Pe_ride_0, b_Pe_ride_5, b_Pe_ride_8, b_Pe_ride_13, b_Pe_ride_16, b_Pe_ride_19, b_Pe_ride_24, b_Pe_ride_29, b_Pe_ride_32, b_Pe_ride_41, b_Pe_ride_44, b_Pe_ride_47, b_Pe_ride_58, b_Pe_ride_68, tp0, tp1, tp2, tp3, tp4, tp5, tp6, tp7, tp8, tp9, hi0, hi1, hi2, li0, li1, li2, li3, li4, li5, li6, li7, e1, am_ck_T, am_ck_t, am_cif_t, am_cif_f, am_cif_T, am_cif_F, am_then_s, am_push_s, am_push_n, true_and, and_true, true_or, or_true, Int.cast_ofNat_Int, am_02, am_22, not_true_eq_false, not_false_eq_true]
    · have e1 := m_isPerson hS hP c.1 i1
      rw [bo_f hp] at e1
      simp (disch := omega) only [c_Mo_ride, b_Mo_ride_0, b_Mo_ride_5, b_Mo_ride_8, b_Mo_ride_13, b_Mo_ride_16, b_Mo_ride_19, b_Mo_ride_28, b_Mo_ride_31, b_Mo_ride_34, b_Mo_ride_40, b_Mo_ride_43, b_Mo_ride_58, b_Mo_ride_61, b_Mo_ride_64, b_Mo_ride_68, b_Mo_ride_76, mo0, mr0, mr1, mr2, mr3, mr4, mr5, mr6, mr7, mr8, mr9, mr10, mr11, mk0, mk1, mk2, mk3, mk4, mk5, mk6, mk7, mk8, mk9, mk10, mk11, e1, am_ck_T, am_ck_t, am_cif_t, am_cif_f, am_cif_T, am_cif_F, am_then_s, am_push_s, am_push_n, true_and, and_true, true_or, or_true, Int.cast_ofNat_Int, am_02, am_22, not_true_eq_false, not_false_eq_true]
theorem p_sleep (hS : ly S) {p l : Int} (i1 : am_Ri p) (i2 : am_Ri l) : Pr S 72 140 [am_i p, am_i l] := by
  intro B X h0 h1 ok
  obtain ⟨tp0, tp1, tp2, tp3, tp4, tp5, tp6, tp7, tp8, tp9⟩ := hS.1
  obtain ⟨hi0, hi1, hi2, hi3⟩ := hS.2.2.2.2.2.1
  obtain ⟨mo0, ⟨mr0, mr1, mr2, mr3, mr4, mr5, mr6, mr7, mr8, mr9, mr10, mr11⟩, mk0, mk1, mk2, mk3, mk4, mk5, mk6, mk7, mk8, mk9, mk10, mk11⟩ := hS.2.2.2.2.2.2.2.2.2.2
  have hP := ok.1
  have hR := ok.2.1
  have hP1 := hP.1
  have hP2 := hP.2.1
  have hP3 := hP.2.2.1
  have hP4 := hP.2.2.2.1
  have lf14 : lf 14 := by unfold lf; omega
  obtain ⟨li0, li1, li2, li3, li4, li5, li6, li7⟩ := hS.2.2.2.2.1 14 lf14
  by_cases hp : 0 ≤ p ∧ p < vnp (xP X)
  · by_cases hl : 0 ≤ l ∧ l < vnl (xP X)
    · have g1 := (hR.2.1 p hp.1 hp.2).2
      by_cases hb : vlv (xR X) p ∧ vbp (xP X) (xR X) l (vgt (xR X) p) ≠ -1
      · have okr := okR_sleep hR hl.1 hl.2 hp.1 hp.2
        have okr2 : okX (B + 1) (xP X, vsleep (xR X) p l, vrem (xH X) (xR X), X.2.2.2) := okX_row (okX_rem ok) (by omega) okr
        have r := (okr.2.1 p hp.1 hp.2).2
        have r2 := okr.1 p _ hp.1 hp.2 r.1 r.2
        refine ⟨vnr (vsleep (xR X) p l) p (vgt (vsleep (xR X) p l) p), (xP X, vsleep (xR X) p l, vrem (xH X) (xR X), X.2.2.2), ⟨by omega, by omega⟩, okX_B okr2 (by omega), fun M c => ?_, fun M c => ?_⟩
        · have e1 := k_isPerson hS hP c.1 i1
          have e2 := k_isLine hS hP c.1 i2
          have e3 := k_mayBoard hS lf14 hP hR c.1 c.2.1 hl.1 hl.2 hp.1 hp.2
          rw [bo_t hp] at e1
          rw [bo_t hl] at e2
          rw [bo_t hb] at e3
          obtain ⟨M1, d1, d2, d3⟩ := k_remember hS ok c
          obtain ⟨M2, f1, f2, f3⟩ := k_sleep hS lf14 hP hR d2.2.1 hl.1 hl.2 hp.1 hp.2
          have e4 := f2.2.1 p hp.1 hp.2
          have e5 := k_near hS lf14 hP f2 hp.1 hp.2 r.1 r.2
          refine ⟨M2, ?_, CX_row d2 f3 f2, fr_tr (fr_mono d3 (by omega) (by omega)) (fr_mono f3 (by omega) (by omega))⟩
          simp (disch := omega) only [c_Pe_sleep, b_Pe_sleep_0, b_Pe_sleep_5, b_Pe_sleep_8, b_Pe_sleep_13, b_Pe_sleep_16, b_Pe_sleep_19, b_Pe_sleep_28, b_Pe_sleep_31, b_Pe_sleep_34, b_Pe_sleep_45, b_Pe_sleep_54, b_Pe_sleep_71, tp0, tp1, tp2, tp3, tp4, tp5, tp6, tp7, tp8, tp9, hi0, hi1, hi2, li0, li1, li2, li3, li4, li5, li6, li7, e1, e2, e3, d1, f1, e4, e5, am_ck_T, am_ck_t, am_cif_t, am_cif_f, am_cif_T, am_cif_F, am_then_s, am_push_s, am_push_n, true_and, and_true, true_or, or_true, Int.cast_ofNat_Int, am_02, am_22, not_true_eq_false, not_false_eq_true]
        · have e1 := m_isPerson hS hP c.1 i1
          have e2 := m_isLine hS hP c.1 i2
          have e3 := m_isDead hS c.2.1 (by omega) p
          have e4 : M 165 (64 + p) = vgt (xR X) p := c.2.1.2.1 p hp.1 hp.2
          have e5 := m_canBoard hS hP hR c.1 c.2.1 (by omega) hl.1 hl.2 g1.1 g1.2
          rw [bo_t hp] at e1
          rw [bo_t hl] at e2
          rw [bo_f (not_not_intro hb.1)] at e3
          rw [bo_t hb.2] at e5
          obtain ⟨M1, d1, d2, d3⟩ := m_remember hS ok c
          obtain ⟨M2, f1, f2, f3⟩ := m_sleep hS hP hR d2.2.1 (by omega) hl.1 hl.2 hp.1 hp.2
          have e7 : M2 165 (64 + p) = vgt (vsleep (xR X) p l) p := f2.2.1 p hp.1 hp.2
          have e8 := m_near hS hP f2 (by omega) hp.1 hp.2 r.1 r.2
          refine ⟨M2, ?_, MX_row (X := (xP X, xR X, vrem (xH X) (xR X), X.2.2.2)) hP d2 f3 f2, fr_tr (fr_mono d3 (by omega) (by omega)) (fr_mono f3.1 (by omega) (by omega))⟩
          simp (disch := omega) only [c_Mo_sleep, b_Mo_sleep_0, b_Mo_sleep_5, b_Mo_sleep_8, b_Mo_sleep_13, b_Mo_sleep_16, b_Mo_sleep_19, b_Mo_sleep_25, b_Mo_sleep_28, b_Mo_sleep_43, b_Mo_sleep_46, b_Mo_sleep_49, b_Mo_sleep_53, b_Mo_sleep_60, b_Mo_sleep_75, mo0, mr0, mr1, mr2, mr3, mr4, mr5, mr6, mr7, mr8, mr9, mr10, mr11, mk0, mk1, mk2, mk3, mk4, mk5, mk6, mk7, mk8, mk9, mk10, mk11, e1, e2, e3, e4, e5, d1, f1, e7, e8, am_ck_T, am_ck_t, am_cif_t, am_cif_f, am_cif_T, am_cif_F, am_then_s, am_push_s, am_push_n, true_and, and_true, true_or, or_true, Int.cast_ofNat_Int, am_02, am_22, not_true_eq_false, not_false_eq_true]
      · refine ⟨-1000000003, X, ⟨by omega, by omega⟩, okX_B ok (by omega), CC_id (fun M c => ?_), MM_id (fun M c => ?_)⟩
        · have e1 := k_isPerson hS hP c.1 i1
          have e2 := k_isLine hS hP c.1 i2
          have e3 := k_mayBoard hS lf14 hP hR c.1 c.2.1 hl.1 hl.2 hp.1 hp.2
          rw [bo_t hp] at e1
          rw [bo_t hl] at e2
          rw [bo_f hb] at e3
          simp (disch := omega) only [c_Pe_sleep, b_Pe_sleep_0, b_Pe_sleep_5, b_Pe_sleep_8, b_Pe_sleep_13, b_Pe_sleep_16, b_Pe_sleep_19, b_Pe_sleep_28, b_Pe_sleep_31, b_Pe_sleep_34, b_Pe_sleep_45, b_Pe_sleep_54, b_Pe_sleep_71, tp0, tp1, tp2, tp3, tp4, tp5, tp6, tp7, tp8, tp9, hi0, hi1, hi2, li0, li1, li2, li3, li4, li5, li6, li7, e1, e2, e3, am_ck_T, am_ck_t, am_cif_t, am_cif_f, am_cif_T, am_cif_F, am_then_s, am_push_s, am_push_n, true_and, and_true, true_or, or_true, Int.cast_ofNat_Int, am_02, am_22, not_true_eq_false, not_false_eq_true]
        · have e1 := m_isPerson hS hP c.1 i1
          have e2 := m_isLine hS hP c.1 i2
          have e3 := m_isDead hS c.2.1 (by omega) p
          have e4 : M 165 (64 + p) = vgt (xR X) p := c.2.1.2.1 p hp.1 hp.2
          have e5 := m_canBoard hS hP hR c.1 c.2.1 (by omega) hl.1 hl.2 g1.1 g1.2
          rw [bo_t hp] at e1
          rw [bo_t hl] at e2
          by_cases hv : vlv (xR X) p
          · rw [bo_f (not_not_intro hv)] at e3
            rw [bo_f (fun h => hb ⟨hv, h⟩)] at e5
            simp (disch := omega) only [c_Mo_sleep, b_Mo_sleep_0, b_Mo_sleep_5, b_Mo_sleep_8, b_Mo_sleep_13, b_Mo_sleep_16, b_Mo_sleep_19, b_Mo_sleep_25, b_Mo_sleep_28, b_Mo_sleep_43, b_Mo_sleep_46, b_Mo_sleep_49, b_Mo_sleep_53, b_Mo_sleep_60, b_Mo_sleep_75, mo0, mr0, mr1, mr2, mr3, mr4, mr5, mr6, mr7, mr8, mr9, mr10, mr11, mk0, mk1, mk2, mk3, mk4, mk5, mk6, mk7, mk8, mk9, mk10, mk11, e1, e2, e3, e4, e5, am_ck_T, am_ck_t, am_cif_t, am_cif_f, am_cif_T, am_cif_F, am_then_s, am_push_s, am_push_n, true_and, and_true, true_or, or_true, Int.cast_ofNat_Int, am_02, am_22, not_true_eq_false, not_false_eq_true]
          · rw [bo_t hv] at e3
            simp (disch := omega) only [c_Mo_sleep, b_Mo_sleep_0, b_Mo_sleep_5, b_Mo_sleep_8, b_Mo_sleep_13, b_Mo_sleep_16, b_Mo_sleep_19, b_Mo_sleep_25, b_Mo_sleep_28, b_Mo_sleep_43, b_Mo_sleep_46, b_Mo_sleep_49, b_Mo_sleep_53, b_Mo_sleep_60, b_Mo_sleep_75, mo0, mr0, mr1, mr2, mr3, mr4, mr5, mr6, mr7, mr8, mr9, mr10, mr11, mk0, mk1, mk2, mk3, mk4, mk5, mk6, mk7, mk8, mk9, mk10, mk11, e1, e2, e3, am_ck_T, am_ck_t, am_cif_t, am_cif_f, am_cif_T, am_cif_F, am_then_s, am_push_s, am_push_n, true_and, and_true, true_or, or_true, Int.cast_ofNat_Int, am_02, am_22, not_true_eq_false, not_false_eq_true]
    · refine ⟨-1000000001, X, ⟨by omega, by omega⟩, okX_B ok (by omega), CC_id (fun M c => ?_), MM_id (fun M c => ?_)⟩
      · have e1 := k_isPerson hS hP c.1 i1
        have e2 := k_isLine hS hP c.1 i2
        rw [bo_t hp] at e1
        rw [bo_f hl] at e2
        simp (disch := omega) only [c_Pe_sleep, b_Pe_sleep_0, b_Pe_sleep_5, b_Pe_sleep_8, b_Pe_sleep_13, b_Pe_sleep_16, b_Pe_sleep_19, b_Pe_sleep_28, b_Pe_sleep_31, b_Pe_sleep_34, b_Pe_sleep_45, b_Pe_sleep_54, b_Pe_sleep_71, tp0, tp1, tp2, tp3, tp4, tp5, tp6, tp7, tp8, tp9, hi0, hi1, hi2, li0, li1, li2, li3, li4, li5, li6, li7, e1, e2, am_ck_T, am_ck_t, am_cif_t, am_cif_f, am_cif_T, am_cif_F, am_then_s, am_push_s, am_push_n, true_and, and_true, true_or, or_true, Int.cast_ofNat_Int, am_02, am_22, not_true_eq_false, not_false_eq_true]
      · have e1 := m_isPerson hS hP c.1 i1
        have e2 := m_isLine hS hP c.1 i2
        rw [bo_t hp] at e1
        rw [bo_f hl] at e2
        simp (disch := omega) only [c_Mo_sleep, b_Mo_sleep_0, b_Mo_sleep_5, b_Mo_sleep_8, b_Mo_sleep_13, b_Mo_sleep_16, b_Mo_sleep_19, b_Mo_sleep_25, b_Mo_sleep_28, b_Mo_sleep_43, b_Mo_sleep_46, b_Mo_sleep_49, b_Mo_sleep_53, b_Mo_sleep_60, b_Mo_sleep_75, mo0, mr0, mr1, mr2, mr3, mr4, mr5, mr6, mr7, mr8, mr9, mr10, mr11, mk0, mk1, mk2, mk3, mk4, mk5, mk6, mk7, mk8, mk9, mk10, mk11, e1, e2, am_ck_T, am_ck_t, am_cif_t, am_cif_f, am_cif_T, am_cif_F, am_then_s, am_push_s, am_push_n, true_and, and_true, true_or, or_true, Int.cast_ofNat_Int, am_02, am_22, not_true_eq_false, not_false_eq_true]
  · refine ⟨-1000000001, X, ⟨by omega, by omega⟩, okX_B ok (by omega), CC_id (fun M c => ?_), MM_id (fun M c => ?_)⟩
    · have e1 := k_isPerson hS hP c.1 i1
      rw [bo_f hp] at e1
      simp (disch := omega) only [c_Pe_sleep, b_Pe_sleep_0, b_Pe_sleep_5, b_Pe_sleep_8, b_Pe_sleep_13, b_Pe_sleep_16, b_Pe_sleep_19, b_Pe_sleep_28, b_Pe_sleep_31, b_Pe_sleep_34, b_Pe_sleep_45, b_Pe_sleep_54, b_Pe_sleep_71, tp0, tp1, tp2, tp3, tp4, tp5, tp6, tp7, tp8, tp9, hi0, hi1, hi2, li0, li1, li2, li3, li4, li5, li6, li7, e1, am_ck_T, am_ck_t, am_cif_t, am_cif_f, am_cif_T, am_cif_F, am_then_s, am_push_s, am_push_n, true_and, and_true, true_or, or_true, Int.cast_ofNat_Int, am_02, am_22, not_true_eq_false, not_false_eq_true]
    · have e1 := m_isPerson hS hP c.1 i1
      rw [bo_f hp] at e1
      simp (disch := omega) only [c_Mo_sleep, b_Mo_sleep_0, b_Mo_sleep_5, b_Mo_sleep_8, b_Mo_sleep_13, b_Mo_sleep_16, b_Mo_sleep_19, b_Mo_sleep_25, b_Mo_sleep_28, b_Mo_sleep_43, b_Mo_sleep_46, b_Mo_sleep_49, b_Mo_sleep_53, b_Mo_sleep_60, b_Mo_sleep_75, mo0, mr0, mr1, mr2, mr3, mr4, mr5, mr6, mr7, mr8, mr9, mr10, mr11, mk0, mk1, mk2, mk3, mk4, mk5, mk6, mk7, mk8, mk9, mk10, mk11, e1, am_ck_T, am_ck_t, am_cif_t, am_cif_f, am_cif_T, am_cif_F, am_then_s, am_push_s, am_push_n, true_and, and_true, true_or, or_true, Int.cast_ofNat_Int, am_02, am_22, not_true_eq_false, not_false_eq_true]
end OPS2
