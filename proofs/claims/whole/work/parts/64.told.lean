/-! told -/
section TOLD
variable {S : am_S} {M M1 : am_M} {X : vX} {B : Int} {P : vP} {R : vR} {b : Nat} {x : Int}
theorem p_told (hS : ly S) {t : Int} (i1 : am_Ri t) : Pr S 67 131 [am_i t] := by
  intro B X h0 h1 ok
  obtain ⟨tp0, tp1, tp2, tp3, tp4, tp5, tp6, tp7, tp8, tp9⟩ := hS.1
  obtain ⟨re0, re1, re2, re3⟩ := hS.2.2.2.1
  obtain ⟨wa0, wa1, wa2⟩ := hS.2.2.2.2.2.2.1
  obtain ⟨si0, si1, si2, si3, si4, si5, si6, si7⟩ := hS.2.2.2.2.2.2.2.1
  obtain ⟨bk0, bk1, bk2, bk3, bk4⟩ := hS.2.2.2.2.2.2.2.2.1
  obtain ⟨hi0, hi1, hi2, hi3⟩ := hS.2.2.2.2.2.1
  obtain ⟨pl0, pl1, pl2, pl3, pl4, pl5, pl6, pl7, pl8⟩ := hS.2.1
  obtain ⟨mo0, ⟨mr0, mr1, mr2, mr3, mr4, mr5, mr6, mr7, mr8, mr9, mr10, mr11⟩, mk0, mk1, mk2, mk3, mk4, mk5, mk6, mk7, mk8, mk9, mk10, mk11⟩ := hS.2.2.2.2.2.2.2.2.2.2
  have hP := ok.1
  have hR := ok.2.1
  have hP1 := hP.1
  have hP2 := hP.2.1
  have hP3 := hP.2.2.1
  have hP4 := hP.2.2.2.1
  have lf14 : lf 14 := by unfold lf; omega
  obtain ⟨li0, li1, li2, li3, li4, li5, li6, li7⟩ := hS.2.2.2.2.1 14 lf14
  have rr := hR.2.2.2.2
  have rH := ok.2.2.2.1
  have rS := ok.2.2.2.2.2.2.1.1
  have rB := ok.2.2.2.2.2.2.2.1.1
  have rT := ok.2.2.2.2.2.2.2.2.1.1
  have hs : ∀ (v : Int), t = v → 0 ≤ v → v ≤ 10 → ∀ offs : Array Int, ∀ d : Int, am_sw 1 d 0 10 offs t = (1 + (offs[v.toNat]?).getD 0).toNat := by
    intro v hv h1 h2 offs d
    unfold am_sw
    rw [hv, if_neg (by omega), Int.sub_zero]
    rfl
  by_cases hout : t < 0 ∨ 10 < t
  · refine ⟨-1000000002, X, ⟨by omega, by omega⟩, okX_B ok (by omega), CC_id (fun M c => ?_), MM_id (fun M c => ?_)⟩
    · have e : am_sw 1 151 0 10 #[59, 67, 75, 83, 91, 99, 107, 119, 127, 135, 143] t = 152 := by unfold am_sw; rw [if_pos hout]; rfl
      simp (disch := omega) only [c_Pe_told, b_Pe_told_0, e, b_Pe_told_152, am_ck_T, am_ck_t, am_cif_t, am_cif_f, am_cif_T, am_cif_F, am_then_s, am_push_s, am_push_n, true_and, and_true, true_or, or_true, Int.cast_ofNat_Int, am_02, am_22, not_true_eq_false, not_false_eq_true]
    · have e : am_sw 1 124 0 10 #[59, 64, 69, 74, 82, 90, 98, 104, 109, 114, 119] t = 125 := by unfold am_sw; rw [if_pos hout]; rfl
      simp (disch := omega) only [c_Mo_told, b_Mo_told_0, e, b_Mo_told_125, am_ck_T, am_ck_t, am_cif_t, am_cif_f, am_cif_T, am_cif_F, am_then_s, am_push_s, am_push_n, true_and, and_true, true_or, or_true, Int.cast_ofNat_Int, am_02, am_22, not_true_eq_false, not_false_eq_true]
  · by_cases t0 : t = 0
    · refine ⟨vnp (xP X), X, ⟨by omega, by omega⟩, okX_B ok (by omega), CC_id (fun M c => ?_), MM_id (fun M c => ?_)⟩
      · have e : am_sw 1 151 0 10 #[59, 67, 75, 83, 91, 99, 107, 119, 127, 135, 143] t = 60 := hs 0 t0 (by omega) (by omega) _ _
        have n1 := c.1.1
        simp (disch := omega) only [c_Pe_told, b_Pe_told_0, e, b_Pe_told_60, tp0, tp1, tp2, tp3, tp4, tp5, tp6, tp7, tp8, tp9, pl0, pl1, pl2, pl3, pl4, pl5, pl6, pl7, pl8, n1, am_ck_T, am_ck_t, am_cif_t, am_cif_f, am_cif_T, am_cif_F, am_then_s, am_push_s, am_push_n, true_and, and_true, true_or, or_true, Int.cast_ofNat_Int, am_02, am_22, not_true_eq_false, not_false_eq_true]
      · have e : am_sw 1 124 0 10 #[59, 64, 69, 74, 82, 90, 98, 104, 109, 114, 119] t = 60 := hs 0 t0 (by omega) (by omega) _ _
        have n1 := c.1.1
        simp (disch := omega) only [c_Mo_told, b_Mo_told_0, e, b_Mo_told_60, mo0, mr0, mr1, mr2, mr3, mr4, mr5, mr6, mr7, mr8, mr9, mr10, mr11, mk0, mk1, mk2, mk3, mk4, mk5, mk6, mk7, mk8, mk9, mk10, mk11, n1, am_ck_T, am_ck_t, am_cif_t, am_cif_f, am_cif_T, am_cif_F, am_then_s, am_push_s, am_push_n, true_and, and_true, true_or, or_true, Int.cast_ofNat_Int, am_02, am_22, not_true_eq_false, not_false_eq_true]
    by_cases t1 : t = 1
    · refine ⟨vnl (xP X), X, ⟨by omega, by omega⟩, okX_B ok (by omega), CC_id (fun M c => ?_), MM_id (fun M c => ?_)⟩
      · have e : am_sw 1 151 0 10 #[59, 67, 75, 83, 91, 99, 107, 119, 127, 135, 143] t = 68 := hs 1 t1 (by omega) (by omega) _ _
        have n1 := c.1.2.1
        simp (disch := omega) only [c_Pe_told, b_Pe_told_0, e, b_Pe_told_68, tp0, tp1, tp2, tp3, tp4, tp5, tp6, tp7, tp8, tp9, pl0, pl1, pl2, pl3, pl4, pl5, pl6, pl7, pl8, n1, am_ck_T, am_ck_t, am_cif_t, am_cif_f, am_cif_T, am_cif_F, am_then_s, am_push_s, am_push_n, true_and, and_true, true_or, or_true, Int.cast_ofNat_Int, am_02, am_22, not_true_eq_false, not_false_eq_true]
      · have e : am_sw 1 124 0 10 #[59, 64, 69, 74, 82, 90, 98, 104, 109, 114, 119] t = 65 := hs 1 t1 (by omega) (by omega) _ _
        have n1 := c.1.2.1
        simp (disch := omega) only [c_Mo_told, b_Mo_told_0, e, b_Mo_told_65, mo0, mr0, mr1, mr2, mr3, mr4, mr5, mr6, mr7, mr8, mr9, mr10, mr11, mk0, mk1, mk2, mk3, mk4, mk5, mk6, mk7, mk8, mk9, mk10, mk11, n1, am_ck_T, am_ck_t, am_cif_t, am_cif_f, am_cif_T, am_cif_F, am_then_s, am_push_s, am_push_n, true_and, and_true, true_or, or_true, Int.cast_ofNat_Int, am_02, am_22, not_true_eq_false, not_false_eq_true]
    by_cases t2 : t = 2
    · refine ⟨((xT X).length : Int), X, ⟨by omega, by omega⟩, okX_B ok (by omega), CC_id (fun M c => ?_), MM_id (fun M c => ?_)⟩
      · have e : am_sw 1 151 0 10 #[59, 67, 75, 83, 91, 99, 107, 119, 127, 135, 143] t = 76 := hs 2 t2 (by omega) (by omega) _ _
        have n1 := c.2.2.2.2.2.2.2.1.1
        simp (disch := omega) only [c_Pe_told, b_Pe_told_0, e, b_Pe_told_76, tp0, tp1, tp2, tp3, tp4, tp5, tp6, tp7, tp8, tp9, re0, re1, re2, re3, n1, am_ck_T, am_ck_t, am_cif_t, am_cif_f, am_cif_T, am_cif_F, am_then_s, am_push_s, am_push_n, true_and, and_true, true_or, or_true, Int.cast_ofNat_Int, am_02, am_22, not_true_eq_false, not_false_eq_true]
      · have e : am_sw 1 124 0 10 #[59, 64, 69, 74, 82, 90, 98, 104, 109, 114, 119] t = 70 := hs 2 t2 (by omega) (by omega) _ _
        have n1 := c.2.2.2.2.2.2.2.1.1
        simp (disch := omega) only [c_Mo_told, b_Mo_told_0, e, b_Mo_told_70, mo0, mr0, mr1, mr2, mr3, mr4, mr5, mr6, mr7, mr8, mr9, mr10, mr11, mk0, mk1, mk2, mk3, mk4, mk5, mk6, mk7, mk8, mk9, mk10, mk11, n1, am_ck_T, am_ck_t, am_cif_t, am_cif_f, am_cif_T, am_cif_F, am_then_s, am_push_s, am_push_n, true_and, and_true, true_or, or_true, Int.cast_ofNat_Int, am_02, am_22, not_true_eq_false, not_false_eq_true]
    by_cases t3 : t = 3
    · refine ⟨vdy (xR X), X, ⟨by omega, by omega⟩, okX_B ok (by omega), CC_id (fun M c => ?_), MM_id (fun M c => ?_)⟩
      · have e : am_sw 1 151 0 10 #[59, 67, 75, 83, 91, 99, 107, 119, 127, 135, 143] t = 84 := hs 3 t3 (by omega) (by omega) _ _
        have n1 := c.2.1.2.2.2.2.2
        simp (disch := omega) only [c_Pe_told, b_Pe_told_0, e, b_Pe_told_84, tp0, tp1, tp2, tp3, tp4, tp5, tp6, tp7, tp8, tp9, li0, li1, li2, li3, li4, li5, li6, li7, n1, am_ck_T, am_ck_t, am_cif_t, am_cif_f, am_cif_T, am_cif_F, am_then_s, am_push_s, am_push_n, true_and, and_true, true_or, or_true, Int.cast_ofNat_Int, am_02, am_22, not_true_eq_false, not_false_eq_true]
      · have e : am_sw 1 124 0 10 #[59, 64, 69, 74, 82, 90, 98, 104, 109, 114, 119] t = 75 := hs 3 t3 (by omega) (by omega) _ _
        have n1 : M 165 79 = vdy (xR X) := c.2.1.2.2.2.2.2
        simp (disch := omega) only [c_Mo_told, b_Mo_told_0, e, b_Mo_told_75, mo0, mr0, mr1, mr2, mr3, mr4, mr5, mr6, mr7, mr8, mr9, mr10, mr11, mk0, mk1, mk2, mk3, mk4, mk5, mk6, mk7, mk8, mk9, mk10, mk11, n1, am_ck_T, am_ck_t, am_cif_t, am_cif_f, am_cif_T, am_cif_F, am_then_s, am_push_s, am_push_n, true_and, and_true, true_or, or_true, Int.cast_ofNat_Int, am_02, am_22, not_true_eq_false, not_false_eq_true]
    by_cases t4 : t = 4
    · refine ⟨vrd (xR X), X, ⟨by omega, by omega⟩, okX_B ok (by omega), CC_id (fun M c => ?_), MM_id (fun M c => ?_)⟩
      · have e : am_sw 1 151 0 10 #[59, 67, 75, 83, 91, 99, 107, 119, 127, 135, 143] t = 92 := hs 4 t4 (by omega) (by omega) _ _
        have n1 := c.2.1.2.2.2.2.1
        simp (disch := omega) only [c_Pe_told, b_Pe_told_0, e, b_Pe_told_92, tp0, tp1, tp2, tp3, tp4, tp5, tp6, tp7, tp8, tp9, li0, li1, li2, li3, li4, li5, li6, li7, n1, am_ck_T, am_ck_t, am_cif_t, am_cif_f, am_cif_T, am_cif_F, am_then_s, am_push_s, am_push_n, true_and, and_true, true_or, or_true, Int.cast_ofNat_Int, am_02, am_22, not_true_eq_false, not_false_eq_true]
      · have e : am_sw 1 124 0 10 #[59, 64, 69, 74, 82, 90, 98, 104, 109, 114, 119] t = 83 := hs 4 t4 (by omega) (by omega) _ _
        have n1 : M 165 80 = vrd (xR X) := c.2.1.2.2.2.2.1
        simp (disch := omega) only [c_Mo_told, b_Mo_told_0, e, b_Mo_told_83, mo0, mr0, mr1, mr2, mr3, mr4, mr5, mr6, mr7, mr8, mr9, mr10, mr11, mk0, mk1, mk2, mk3, mk4, mk5, mk6, mk7, mk8, mk9, mk10, mk11, n1, am_ck_T, am_ck_t, am_cif_t, am_cif_f, am_cif_T, am_cif_F, am_then_s, am_push_s, am_push_n, true_and, and_true, true_or, or_true, Int.cast_ofNat_Int, am_02, am_22, not_true_eq_false, not_false_eq_true]
    by_cases t5 : t = 5
    · refine ⟨vdd (xR X), X, ⟨by omega, by omega⟩, okX_B ok (by omega), CC_id (fun M c => ?_), MM_id (fun M c => ?_)⟩
      · have e : am_sw 1 151 0 10 #[59, 67, 75, 83, 91, 99, 107, 119, 127, 135, 143] t = 100 := hs 5 t5 (by omega) (by omega) _ _
        have n1 := c.2.1.2.2.2.1
        simp (disch := omega) only [c_Pe_told, b_Pe_told_0, e, b_Pe_told_100, tp0, tp1, tp2, tp3, tp4, tp5, tp6, tp7, tp8, tp9, li0, li1, li2, li3, li4, li5, li6, li7, n1, am_ck_T, am_ck_t, am_cif_t, am_cif_f, am_cif_T, am_cif_F, am_then_s, am_push_s, am_push_n, true_and, and_true, true_or, or_true, Int.cast_ofNat_Int, am_02, am_22, not_true_eq_false, not_false_eq_true]
      · have e : am_sw 1 124 0 10 #[59, 64, 69, 74, 82, 90, 98, 104, 109, 114, 119] t = 91 := hs 5 t5 (by omega) (by omega) _ _
        have n1 : M 165 78 = vdd (xR X) := c.2.1.2.2.2.1
        simp (disch := omega) only [c_Mo_told, b_Mo_told_0, e, b_Mo_told_91, mo0, mr0, mr1, mr2, mr3, mr4, mr5, mr6, mr7, mr8, mr9, mr10, mr11, mk0, mk1, mk2, mk3, mk4, mk5, mk6, mk7, mk8, mk9, mk10, mk11, n1, am_ck_T, am_ck_t, am_cif_t, am_cif_f, am_cif_T, am_cif_F, am_then_s, am_push_s, am_push_n, true_and, and_true, true_or, or_true, Int.cast_ofNat_Int, am_02, am_22, not_true_eq_false, not_false_eq_true]
    by_cases t6 : t = 6
    · have rv := vpr_rng (P := xP X) (R := xR X) hP
      refine ⟨vpr (xP X) (xR X), X, ⟨by omega, by omega⟩, okX_B ok (by omega), fun M c => ?_, fun M c => ?_⟩
      · have e : am_sw 1 151 0 10 #[59, 67, 75, 83, 91, 99, 107, 119, 127, 135, 143] t = 108 := hs 6 t6 (by omega) (by omega) _ _
        obtain ⟨M1, d1, d2⟩ := k_pairs hS lf14 (by omega) hP hR c.1 c.2.1
        refine ⟨M1, ?_, CX_145 c d2, fr_mono d2 (by omega) (by omega)⟩
        simp (disch := omega) only [c_Pe_told, b_Pe_told_0, e, b_Pe_told_108, b_Pe_told_119, tp0, tp1, tp2, tp3, tp4, tp5, tp6, tp7, tp8, tp9, wa0, wa1, wa2, li0, li1, li2, li3, li4, li5, li6, li7, d1, am_ck_T, am_ck_t, am_cif_t, am_cif_f, am_cif_T, am_cif_F, am_then_s, am_push_s, am_push_n, true_and, and_true, true_or, or_true, Int.cast_ofNat_Int, am_02, am_22, not_true_eq_false, not_false_eq_true]
      · have e : am_sw 1 124 0 10 #[59, 64, 69, 74, 82, 90, 98, 104, 109, 114, 119] t = 99 := hs 6 t6 (by omega) (by omega) _ _
        obtain ⟨M1, d1, d2⟩ := m_pairs hS hP hR c.1 c.2.1 (by omega)
        refine ⟨M1, ?_, MX_172 hP c d2, fr_mono d2 (by omega) (by omega)⟩
        simp (disch := omega) only [c_Mo_told, b_Mo_told_0, e, b_Mo_told_99, b_Mo_told_104, mo0, mr0, mr1, mr2, mr3, mr4, mr5, mr6, mr7, mr8, mr9, mr10, mr11, mk0, mk1, mk2, mk3, mk4, mk5, mk6, mk7, mk8, mk9, mk10, mk11, d1, am_ck_T, am_ck_t, am_cif_t, am_cif_f, am_cif_T, am_cif_F, am_then_s, am_push_s, am_push_n, true_and, and_true, true_or, or_true, Int.cast_ofNat_Int, am_02, am_22, not_true_eq_false, not_false_eq_true]
    by_cases t7 : t = 7
    · have rv := vtg_rng hP hR
      refine ⟨vtg (xP X) (xR X), X, ⟨by omega, by omega⟩, okX_B ok (by omega), CC_id (fun M c => ?_), MM_id (fun M c => ?_)⟩
      · have e : am_sw 1 151 0 10 #[59, 67, 75, 83, 91, 99, 107, 119, 127, 135, 143] t = 120 := hs 7 t7 (by omega) (by omega) _ _
        have d1 := k_together hS lf14 hP c.1 c.2.1
        simp (disch := omega) only [c_Pe_told, b_Pe_told_0, e, b_Pe_told_120, b_Pe_told_127, tp0, tp1, tp2, tp3, tp4, tp5, tp6, tp7, tp8, tp9, li0, li1, li2, li3, li4, li5, li6, li7, d1, am_ck_T, am_ck_t, am_cif_t, am_cif_f, am_cif_T, am_cif_F, am_then_s, am_push_s, am_push_n, true_and, and_true, true_or, or_true, Int.cast_ofNat_Int, am_02, am_22, not_true_eq_false, not_false_eq_true]
      · have e : am_sw 1 124 0 10 #[59, 64, 69, 74, 82, 90, 98, 104, 109, 114, 119] t = 105 := hs 7 t7 (by omega) (by omega) _ _
        have d1 := m_allNear hS hP hR c.1 c.2.1
        simp (disch := omega) only [c_Mo_told, b_Mo_told_0, e, b_Mo_told_105, b_Mo_told_109, mo0, mr0, mr1, mr2, mr3, mr4, mr5, mr6, mr7, mr8, mr9, mr10, mr11, mk0, mk1, mk2, mk3, mk4, mk5, mk6, mk7, mk8, mk9, mk10, mk11, d1, am_ck_T, am_ck_t, am_cif_t, am_cif_f, am_cif_T, am_cif_F, am_then_s, am_push_s, am_push_n, true_and, and_true, true_or, or_true, Int.cast_ofNat_Int, am_02, am_22, not_true_eq_false, not_false_eq_true]
    by_cases t8 : t = 8
    · refine ⟨((xS X).length : Int), X, ⟨by omega, by omega⟩, okX_B ok (by omega), CC_id (fun M c => ?_), MM_id (fun M c => ?_)⟩
      · have e : am_sw 1 151 0 10 #[59, 67, 75, 83, 91, 99, 107, 119, 127, 135, 143] t = 128 := hs 8 t8 (by omega) (by omega) _ _
        have n1 := c.2.2.2.2.2.1.1
        simp (disch := omega) only [c_Pe_told, b_Pe_told_0, e, b_Pe_told_128, tp0, tp1, tp2, tp3, tp4, tp5, tp6, tp7, tp8, tp9, si0, si1, si2, si3, si4, si5, si6, si7, n1, am_ck_T, am_ck_t, am_cif_t, am_cif_f, am_cif_T, am_cif_F, am_then_s, am_push_s, am_push_n, true_and, and_true, true_or, or_true, Int.cast_ofNat_Int, am_02, am_22, not_true_eq_false, not_false_eq_true]
      · have e : am_sw 1 124 0 10 #[59, 64, 69, 74, 82, 90, 98, 104, 109, 114, 119] t = 110 := hs 8 t8 (by omega) (by omega) _ _
        have n1 := c.2.2.2.2.2.1.1
        simp (disch := omega) only [c_Mo_told, b_Mo_told_0, e, b_Mo_told_110, mo0, mr0, mr1, mr2, mr3, mr4, mr5, mr6, mr7, mr8, mr9, mr10, mr11, mk0, mk1, mk2, mk3, mk4, mk5, mk6, mk7, mk8, mk9, mk10, mk11, n1, am_ck_T, am_ck_t, am_cif_t, am_cif_f, am_cif_T, am_cif_F, am_then_s, am_push_s, am_push_n, true_and, and_true, true_or, or_true, Int.cast_ofNat_Int, am_02, am_22, not_true_eq_false, not_false_eq_true]
    by_cases t9 : t = 9
    · refine ⟨((xB X).length : Int), X, ⟨by omega, by omega⟩, okX_B ok (by omega), CC_id (fun M c => ?_), MM_id (fun M c => ?_)⟩
      · have e : am_sw 1 151 0 10 #[59, 67, 75, 83, 91, 99, 107, 119, 127, 135, 143] t = 136 := hs 9 t9 (by omega) (by omega) _ _
        have n1 := c.2.2.2.2.2.2.1.1
        simp (disch := omega) only [c_Pe_told, b_Pe_told_0, e, b_Pe_told_136, tp0, tp1, tp2, tp3, tp4, tp5, tp6, tp7, tp8, tp9, bk0, bk1, bk2, bk3, bk4, n1, am_ck_T, am_ck_t, am_cif_t, am_cif_f, am_cif_T, am_cif_F, am_then_s, am_push_s, am_push_n, true_and, and_true, true_or, or_true, Int.cast_ofNat_Int, am_02, am_22, not_true_eq_false, not_false_eq_true]
      · have e : am_sw 1 124 0 10 #[59, 64, 69, 74, 82, 90, 98, 104, 109, 114, 119] t = 115 := hs 9 t9 (by omega) (by omega) _ _
        have n1 := c.2.2.2.2.2.2.1.1
        simp (disch := omega) only [c_Mo_told, b_Mo_told_0, e, b_Mo_told_115, mo0, mr0, mr1, mr2, mr3, mr4, mr5, mr6, mr7, mr8, mr9, mr10, mr11, mk0, mk1, mk2, mk3, mk4, mk5, mk6, mk7, mk8, mk9, mk10, mk11, n1, am_ck_T, am_ck_t, am_cif_t, am_cif_f, am_cif_T, am_cif_F, am_then_s, am_push_s, am_push_n, true_and, and_true, true_or, or_true, Int.cast_ofNat_Int, am_02, am_22, not_true_eq_false, not_false_eq_true]
    · have t10 : t = 10 := by omega
      refine ⟨((xH X).length : Int), X, ⟨by omega, by omega⟩, okX_B ok (by omega), CC_id (fun M c => ?_), MM_id (fun M c => ?_)⟩
      · have e : am_sw 1 151 0 10 #[59, 67, 75, 83, 91, 99, 107, 119, 127, 135, 143] t = 144 := hs 10 t10 (by omega) (by omega) _ _
        obtain ⟨nx, _, _, n1, _⟩ := c.2.2.1
        simp (disch := omega) only [c_Pe_told, b_Pe_told_0, e, b_Pe_told_144, tp0, tp1, tp2, tp3, tp4, tp5, tp6, tp7, tp8, tp9, hi0, hi1, hi2, n1, am_ck_T, am_ck_t, am_cif_t, am_cif_f, am_cif_T, am_cif_F, am_then_s, am_push_s, am_push_n, true_and, and_true, true_or, or_true, Int.cast_ofNat_Int, am_02, am_22, not_true_eq_false, not_false_eq_true]
      · have e : am_sw 1 124 0 10 #[59, 64, 69, 74, 82, 90, 98, 104, 109, 114, 119] t = 120 := hs 10 t10 (by omega) (by omega) _ _
        have n1 := c.2.2.1.1
        simp (disch := omega) only [c_Mo_told, b_Mo_told_0, e, b_Mo_told_120, mo0, mr0, mr1, mr2, mr3, mr4, mr5, mr6, mr7, mr8, mr9, mr10, mr11, mk0, mk1, mk2, mk3, mk4, mk5, mk6, mk7, mk8, mk9, mk10, mk11, n1, am_ck_T, am_ck_t, am_cif_t, am_cif_f, am_cif_T, am_cif_F, am_then_s, am_push_s, am_push_n, true_and, and_true, true_or, or_true, Int.cast_ofNat_Int, am_02, am_22, not_true_eq_false, not_false_eq_true]
end TOLD
