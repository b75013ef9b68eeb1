/-! drift: days by draws -/
def vnd (d : Int) : Int := (d * 1103515245 + 12345) % 2147483648
theorem vnd_rng (d : Int) : 0 ≤ vnd d ∧ vnd d ≤ 2147483647 := by unfold vnd; omega
def vrow (X : vX) (R : vR) : vX := (xP X, R, X.2.2)
noncomputable def vpe (X : vX) (p l f : Int) : vX := am_cif (vbp (xP X) (xR X) l (vgt (xR X) p) ≠ -1) (vrow X (am_cif (f = 0) (vsleep (xR X) p l) (vride (xP X) (xR X) p l 5))) X
noncomputable def vpd (X : vX) (p : Int) : vX := am_cif (vlv (xR X) p ∧ 0 < vnl (xP X)) (vpe (vSD X (vnd (vnd (xD X)))) p (vnd (xD X) / 65536 % vnl (xP X)) (vnd (vnd (xD X)) / 65536 % 20)) X
noncomputable def vpds : Nat → Int → vX → vX
  | 0, _, X => X
  | n + 1, p, X => vpds n (p + 1) (vpd X p)
noncomputable def vrand (X : vX) : vX := vrow (vpds (vnp (xP X)).toNat 0 X) (vdawn (xR (vpds (vnp (xP X)).toNat 0 X)))
section DRIFT
variable {S : am_S} {M M1 : am_M} {X : vX} {B : Int} {P : vP}
theorem vsleep_dy (R : vR) (p l : Int) : vdy (vsleep R p l) = vdy R := by
  unfold vsleep
  by_cases h : vlv R (ven R l)
  · rw [am_cif_t h]
    unfold vbn
    by_cases h2 : vnr (vSr (vSg R p (ven R l)) (vrd R + 1)) p (ven R l) < 9
    · rw [if_pos h2]; rfl
    · rw [if_neg h2]; rfl
  · rw [am_cif_f h]; rfl
theorem vpe_keep (X : vX) (p l f : Int) : xP (vpe X p l f) = xP X ∧ vdy (xR (vpe X p l f)) = vdy (xR X) := by
  unfold vpe
  by_cases h : vbp (xP X) (xR X) l (vgt (xR X) p) ≠ -1
  · rw [am_cif_t h]
    by_cases hf : f = 0
    · rw [am_cif_t hf]; exact ⟨rfl, vsleep_dy _ _ _⟩
    · rw [am_cif_f hf]; exact ⟨rfl, rfl⟩
  · rw [am_cif_f h]; exact ⟨rfl, rfl⟩
theorem vpd_keep (X : vX) (p : Int) : xP (vpd X p) = xP X ∧ vdy (xR (vpd X p)) = vdy (xR X) := by
  unfold vpd
  by_cases h : vlv (xR X) p ∧ 0 < vnl (xP X)
  · rw [am_cif_t h]; exact vpe_keep _ _ _ _
  · rw [am_cif_f h]; exact ⟨rfl, rfl⟩
theorem okX_pd (ok : okX B X) {p : Int} (h1 : 0 ≤ p) (h2 : p < vnp (xP X)) : okX (B + 1) (vpd X p) := by
  unfold vpd
  by_cases h : vlv (xR X) p ∧ 0 < vnl (xP X)
  · rw [am_cif_t h]
    have ok2 := okX_seed ok (vnd_rng (vnd (xD X)))
    have l1 : 0 ≤ vnd (xD X) / 65536 % vnl (xP X) := Int.emod_nonneg _ (by omega)
    have l2 : vnd (xD X) / 65536 % vnl (xP X) < vnl (xP X) := Int.emod_lt_of_pos _ h.2
    unfold vpe
    by_cases hb : vbp (xP (vSD X (vnd (vnd (xD X))))) (xR (vSD X (vnd (vnd (xD X))))) (vnd (xD X) / 65536 % vnl (xP X)) (vgt (xR (vSD X (vnd (vnd (xD X))))) p) ≠ -1
    · rw [am_cif_t hb]
      by_cases hf : vnd (vnd (xD X)) / 65536 % 20 = 0
      · rw [am_cif_t hf]; exact okX_row ok2 (by omega) (okR_sleep ok2.2.1 l1 l2 h1 h2)
      · rw [am_cif_f hf]; exact okX_row ok2 (by omega) (okR_ride ok2.1 ok2.2.1 l1 l2 hb)
    · rw [am_cif_f hb]; exact okX_B ok2 (by omega)
  · rw [am_cif_f h]; exact okX_B ok (by omega)
theorem k_draw (hS : ly S) (ok : okX B X) (c : CX X M) {n : Int} (h1 : 1 ≤ n) (h2 : n ≤ 20) : am_call 103 [am_r 1, am_i n] S M = some (some (am_i (vnd (xD X) / 65536 % n)), S, am_wr M 1 10 (vnd (xD X))) := by
  obtain ⟨tp0, tp1, tp2, tp3, tp4, tp5, tp6, tp7, tp8, tp9⟩ := hS.1
  have e := c.2.2.2.2.2.2.2.2.2
  have r := ok.2.2.2.2.2.2.2.2.2.2
  have r2 := vnd_rng (xD X)
  have e2 : (xD X * 1103515245 + 12345) % 2147483648 = vnd (xD X) := rfl
  simp (disch := omega) only [c_Pe_draw, b_Pe_draw_0, b_Pe_draw_26, b_Pe_draw_39, b_Pe_draw_40, tp0, tp1, tp2, tp3, tp4, tp5, tp6, tp7, tp8, tp9, e, e2, am_wr_s, am_ck_T, am_ck_t, am_cif_t, am_cif_f, am_cif_T, am_cif_F, am_then_s, am_push_s, am_push_n, true_and, and_true, true_or, or_true, Int.cast_ofNat_Int, am_02, am_22, not_true_eq_false, not_false_eq_true]
theorem m_draw (hS : ly S) (ok : okX B X) (c : MX X M) {n : Int} (h1 : 1 ≤ n) (h2 : n ≤ 20) : am_call 146 [am_r 164, am_i n] S M = some (some (am_i (vnd (xD X) / 65536 % n)), S, am_wr M 165 81 (vnd (xD X))) := by
  obtain ⟨mo0, ⟨mr0, mr1, mr2, mr3, mr4, mr5, mr6, mr7, mr8, mr9, mr10, mr11⟩, mk0, mk1, mk2, mk3, mk4, mk5, mk6, mk7, mk8, mk9, mk10, mk11⟩ := hS.2.2.2.2.2.2.2.2.2.2
  have e := c.2.2.2.2.2.2.2.2.2
  have r := ok.2.2.2.2.2.2.2.2.2.2
  have r2 := vnd_rng (xD X)
  have e2 : (xD X * 1103515245 + 12345) % 2147483648 = vnd (xD X) := rfl
  simp (disch := omega) only [c_Mo_draw, b_Mo_draw_0, mo0, mr0, mr1, mr2, mr3, mr4, mr5, mr6, mr7, mr8, mr9, mr10, mr11, mk0, mk1, mk2, mk3, mk4, mk5, mk6, mk7, mk8, mk9, mk10, mk11, e, e2, am_wr_s, am_ck_T, am_ck_t, am_cif_t, am_cif_f, am_cif_T, am_cif_F, am_then_s, am_push_s, am_push_n, true_and, and_true, true_or, or_true, Int.cast_ofNat_Int, am_02, am_22, not_true_eq_false, not_false_eq_true]
theorem k_pd (hS : ly S) (ok : okX B X) (c : CX X M) {p : Int} (h1 : 0 ≤ p) (h2 : p < vnp (xP X)) : ∃ M1, am_R 101 13 [some (am_r 1), some (am_i p)] [] S M = am_R 101 39 [some (am_r 1), some (am_i p)] [] S M1 ∧ CX (vpd X p) M1 ∧ fr 1 163 M M1 := by
  obtain ⟨tp0, tp1, tp2, tp3, tp4, tp5, tp6, tp7, tp8, tp9⟩ := hS.1
  obtain ⟨pl0, pl1, pl2, pl3, pl4, pl5, pl6, pl7, pl8⟩ := hS.2.1
  have hP := ok.1
  have hR := ok.2.1
  have hP1 := hP.1
  have hP2 := hP.2.1
  have hP3 := hP.2.2.1
  have hP4 := hP.2.2.2.1
  have lf14 : lf 14 := by unfold lf; omega
  obtain ⟨li0, li1, li2, li3, li4, li5, li6, li7⟩ := hS.2.2.2.2.1 14 lf14
  have e1 := k_lives hS lf14 c.2.1 p
  have nl := c.1.2.1
  unfold vpd
  by_cases hv : vlv (xR X) p
  · rw [bo_t hv] at e1
    by_cases hl : 0 < vnl (xP X)
    · rw [am_cif_t ⟨hv, hl⟩]
      have d1 := k_draw hS ok c (n := vnl (xP X)) (by omega) (by omega)
      have ok1 := okX_seed ok (vnd_rng (xD X))
      have c1 := CX_seed c (vnd (xD X))
      have d2 := k_draw hS ok1 c1 (n := 20) (by omega) (by omega)
      have ok2 := okX_seed ok1 (vnd_rng (xD (vSD X (vnd (xD X)))))
      have c2 := CX_seed c1 (vnd (xD (vSD X (vnd (xD X)))))
      have l1 : 0 ≤ vnd (xD X) / 65536 % vnl (xP X) := Int.emod_nonneg _ (by omega)
      have l2 : vnd (xD X) / 65536 % vnl (xP X) < vnl (xP X) := Int.emod_lt_of_pos _ hl
      have f1 : 0 ≤ vnd (vnd (xD X)) / 65536 % 20 := Int.emod_nonneg _ (by omega)
      have f2 : vnd (vnd (xD X)) / 65536 % 20 < 20 := Int.emod_lt_of_pos _ (by omega)
      change am_call 103 [am_r 1, am_i 20] S (am_wr M 1 10 (vnd (xD X))) = some (some (am_i (vnd (vnd (xD X)) / 65536 % 20)), S, am_wr (am_wr M 1 10 (vnd (xD X))) 1 10 (vnd (vnd (xD X)))) at d2
      change CX (vSD X (vnd (vnd (xD X)))) (am_wr (am_wr M 1 10 (vnd (xD X))) 1 10 (vnd (vnd (xD X)))) at c2
      have frr : fr 1 163 M (am_wr (am_wr M 1 10 (vnd (xD X))) 1 10 (vnd (vnd (xD X)))) := fr_tr (fr_wr (by omega)) (fr_wr (by omega))
      generalize am_wr (am_wr M 1 10 (vnd (xD X))) 1 10 (vnd (vnd (xD X))) = M2 at d2 c2 frr
      generalize vnd (xD X) / 65536 % vnl (xP X) = l at d1 l1 l2
      generalize vnd (vnd (xD X)) / 65536 % 20 = f at d2 f1 f2
      have e3 := k_mayBoard hS lf14 hP hR c2.1 c2.2.1 l1 l2 h1 h2
      unfold vpe
      by_cases hb : vbp (xP X) (xR X) l (vgt (xR X) p) ≠ -1
      · have e4 : bo (vlv (xR X) p ∧ vbp (xP X) (xR X) l (vgt (xR X) p) ≠ -1) = 1 := bo_t ⟨hv, hb⟩
        change am_call 18 [am_r 14, am_i p, am_i l] S M2 = some (some (am_i (bo (vlv (xR X) p ∧ vbp (xP X) (xR X) l (vgt (xR X) p) ≠ -1))), S, M2) at e3
        rw [e4] at e3
        rw [am_cif_t (show vbp (xP (vSD X (vnd (vnd (xD X))))) (xR (vSD X (vnd (vnd (xD X))))) l (vgt (xR (vSD X (vnd (vnd (xD X))))) p) ≠ -1 from hb)]
        by_cases hf : f = 0
        · rw [am_cif_t hf]
          obtain ⟨M3, g1, g2, g3⟩ := k_sleep hS lf14 hP hR c2.2.1 l1 l2 h1 h2
          refine ⟨M3, ?_, CX_row c2 g3 g2, fr_tr frr (fr_mono g3 (by omega) (by omega))⟩
          simp (disch := omega) only [b_Pe_passDayByDraws_13, b_Pe_passDayByDraws_21, b_Pe_passDayByDraws_24, b_Pe_passDayByDraws_34, c_Pe_rideByDraws, b_Pe_rideByDraws_0, b_Pe_rideByDraws_11, b_Pe_rideByDraws_18, b_Pe_rideByDraws_28, b_Pe_rideByDraws_31, b_Pe_rideByDraws_32, b_Pe_rideByDraws_36, b_Pe_rideByDraws_45, b_Pe_rideByDraws_48, b_Pe_rideByDraws_58, tp0, tp1, tp2, tp3, tp4, tp5, tp6, tp7, tp8, tp9, pl0, pl1, pl2, pl3, pl4, pl5, pl6, pl7, pl8, li0, e1, nl, d1, d2, e3, g1, am_ck_T, am_ck_t, am_cif_t, am_cif_f, am_cif_T, am_cif_F, am_then_s, am_push_s, am_push_n, true_and, and_true, true_or, or_true, Int.cast_ofNat_Int, am_02, am_22, not_true_eq_false, not_false_eq_true]
        · rw [am_cif_f hf]
          obtain ⟨M3, g1, g2, g3⟩ := k_carry (n := 5) hS lf14 hP hR c2.1 c2.2.1 l1 l2 h1 h2 (by omega) (by omega) hb
          refine ⟨M3, ?_, CX_row c2 g3 g2, fr_tr frr (fr_mono g3 (by omega) (by omega))⟩
          simp (disch := omega) only [b_Pe_passDayByDraws_13, b_Pe_passDayByDraws_21, b_Pe_passDayByDraws_24, b_Pe_passDayByDraws_34, c_Pe_rideByDraws, b_Pe_rideByDraws_0, b_Pe_rideByDraws_11, b_Pe_rideByDraws_18, b_Pe_rideByDraws_28, b_Pe_rideByDraws_31, b_Pe_rideByDraws_32, b_Pe_rideByDraws_36, b_Pe_rideByDraws_45, b_Pe_rideByDraws_48, b_Pe_rideByDraws_58, tp0, tp1, tp2, tp3, tp4, tp5, tp6, tp7, tp8, tp9, pl0, pl1, pl2, pl3, pl4, pl5, pl6, pl7, pl8, li0, e1, nl, d1, d2, e3, g1, am_ck_T, am_ck_t, am_cif_t, am_cif_f, am_cif_T, am_cif_F, am_then_s, am_push_s, am_push_n, true_and, and_true, true_or, or_true, Int.cast_ofNat_Int, am_02, am_22, not_true_eq_false, not_false_eq_true]
      · have e4 : bo (vlv (xR X) p ∧ vbp (xP X) (xR X) l (vgt (xR X) p) ≠ -1) = 0 := bo_f (fun h => hb h.2)
        change am_call 18 [am_r 14, am_i p, am_i l] S M2 = some (some (am_i (bo (vlv (xR X) p ∧ vbp (xP X) (xR X) l (vgt (xR X) p) ≠ -1))), S, M2) at e3
        rw [e4] at e3
        rw [am_cif_f (show ¬ vbp (xP (vSD X (vnd (vnd (xD X))))) (xR (vSD X (vnd (vnd (xD X))))) l (vgt (xR (vSD X (vnd (vnd (xD X))))) p) ≠ -1 from hb)]
        refine ⟨M2, ?_, c2, frr⟩
        simp (disch := omega) only [b_Pe_passDayByDraws_13, b_Pe_passDayByDraws_21, b_Pe_passDayByDraws_24, b_Pe_passDayByDraws_34, c_Pe_rideByDraws, b_Pe_rideByDraws_0, b_Pe_rideByDraws_11, b_Pe_rideByDraws_18, b_Pe_rideByDraws_28, b_Pe_rideByDraws_31, b_Pe_rideByDraws_32, b_Pe_rideByDraws_36, b_Pe_rideByDraws_45, b_Pe_rideByDraws_48, b_Pe_rideByDraws_58, tp0, tp1, tp2, tp3, tp4, tp5, tp6, tp7, tp8, tp9, pl0, pl1, pl2, pl3, pl4, pl5, pl6, pl7, pl8, li0, e1, nl, d1, d2, e3, am_ck_T, am_ck_t, am_cif_t, am_cif_f, am_cif_T, am_cif_F, am_then_s, am_push_s, am_push_n, true_and, and_true, true_or, or_true, Int.cast_ofNat_Int, am_02, am_22, not_true_eq_false, not_false_eq_true]
    · rw [am_cif_f (fun h => hl h.2)]
      refine ⟨M, ?_, c, fr_rf⟩
      simp (disch := omega) only [b_Pe_passDayByDraws_13, b_Pe_passDayByDraws_21, b_Pe_passDayByDraws_24, tp0, tp1, tp2, tp3, tp4, tp5, tp6, tp7, tp8, tp9, pl0, pl1, pl2, pl3, pl4, pl5, pl6, pl7, pl8, li0, e1, nl, am_ck_T, am_ck_t, am_cif_t, am_cif_f, am_cif_T, am_cif_F, am_then_s, am_push_s, am_push_n, true_and, and_true, true_or, or_true, Int.cast_ofNat_Int, am_02, am_22, not_true_eq_false, not_false_eq_true]
  · rw [bo_f hv] at e1
    rw [am_cif_f (fun h => hv h.1)]
    refine ⟨M, ?_, c, fr_rf⟩
    simp (disch := omega) only [b_Pe_passDayByDraws_13, b_Pe_passDayByDraws_21, tp0, tp1, tp2, tp3, tp4, tp5, tp6, tp7, tp8, tp9, pl0, pl1, pl2, pl3, pl4, pl5, pl6, pl7, pl8, li0, e1, am_ck_T, am_ck_t, am_cif_t, am_cif_f, am_cif_T, am_cif_F, am_then_s, am_push_s, am_push_n, true_and, and_true, true_or, or_true, Int.cast_ofNat_Int, am_02, am_22, not_true_eq_false, not_false_eq_true]
theorem m_pd (hS : ly S) (ok : okX B X) (c : MX X M) {p : Int} (h1 : 0 ≤ p) (h2 : p < vnp (xP X)) (o2 o3 : Option am_V) : ∃ M1 o4 o5, am_R 147 10 [some (am_r 164), some (am_i p), o2, o3] [] S M = am_R 147 100 [some (am_r 164), some (am_i p), o4, o5] [] S M1 ∧ MX (vpd X p) M1 ∧ fr 164 176 M M1 := by
  obtain ⟨mo0, ⟨mr0, mr1, mr2, mr3, mr4, mr5, mr6, mr7, mr8, mr9, mr10, mr11⟩, mk0, mk1, mk2, mk3, mk4, mk5, mk6, mk7, mk8, mk9, mk10, mk11⟩ := hS.2.2.2.2.2.2.2.2.2.2
  have hP := ok.1
  have hR := ok.2.1
  have hP1 := hP.1
  have hP2 := hP.2.1
  have hP3 := hP.2.2.1
  have hP4 := hP.2.2.2.1
  have e1 := m_isDead hS c.2.1 (by omega) p
  have nl := c.1.2.1
  have g5 := (hR.2.1 p h1 h2).2
  unfold vpd
  by_cases hv : vlv (xR X) p
  · rw [bo_f (not_not_intro hv)] at e1
    by_cases hl : 0 < vnl (xP X)
    · rw [am_cif_t ⟨hv, hl⟩]
      have d1 := m_draw hS ok c (n := vnl (xP X)) (by omega) (by omega)
      have ok1 := okX_seed ok (vnd_rng (xD X))
      have c1 := MX_seed hP c (vnd (xD X))
      have d2 := m_draw hS ok1 c1 (n := 20) (by omega) (by omega)
      have ok2 := okX_seed ok1 (vnd_rng (xD (vSD X (vnd (xD X)))))
      have c2 := MX_seed (X := vSD X (vnd (xD X))) hP c1 (vnd (xD (vSD X (vnd (xD X)))))
      have l1 : 0 ≤ vnd (xD X) / 65536 % vnl (xP X) := Int.emod_nonneg _ (by omega)
      have l2 : vnd (xD X) / 65536 % vnl (xP X) < vnl (xP X) := Int.emod_lt_of_pos _ hl
      have f1 : 0 ≤ vnd (vnd (xD X)) / 65536 % 20 := Int.emod_nonneg _ (by omega)
      have f2 : vnd (vnd (xD X)) / 65536 % 20 < 20 := Int.emod_lt_of_pos _ (by omega)
      change am_call 146 [am_r 164, am_i 20] S (am_wr M 165 81 (vnd (xD X))) = some (some (am_i (vnd (vnd (xD X)) / 65536 % 20)), S, am_wr (am_wr M 165 81 (vnd (xD X))) 165 81 (vnd (vnd (xD X)))) at d2
      change MX (vSD X (vnd (vnd (xD X)))) (am_wr (am_wr M 165 81 (vnd (xD X))) 165 81 (vnd (vnd (xD X)))) at c2
      have frr : fr 164 176 M (am_wr (am_wr M 165 81 (vnd (xD X))) 165 81 (vnd (vnd (xD X)))) := fr_tr (fr_wr (by omega)) (fr_wr (by omega))
      generalize am_wr (am_wr M 165 81 (vnd (xD X))) 165 81 (vnd (vnd (xD X))) = M2 at d2 c2 frr
      generalize vnd (xD X) / 65536 % vnl (xP X) = l at d1 l1 l2
      generalize vnd (vnd (xD X)) / 65536 % 20 = f at d2 f1 f2
      have e2 : M2 165 (64 + p) = vgt (xR X) p := c2.2.1.2.1 p h1 h2
      have e3 : am_call 127 [am_r 164, am_i 0, am_i l, am_i (vgt (xR X) p)] S M2 = some (some (am_i (bo (vbp (xP X) (xR X) l (vgt (xR X) p) ≠ -1))), S, M2) := m_canBoard hS hP hR c2.1 c2.2.1 (by omega) l1 l2 g5.1 g5.2
      unfold vpe
      by_cases hb : vbp (xP X) (xR X) l (vgt (xR X) p) ≠ -1
      · rw [bo_t hb] at e3
        rw [am_cif_t (show vbp (xP (vSD X (vnd (vnd (xD X))))) (xR (vSD X (vnd (vnd (xD X))))) l (vgt (xR (vSD X (vnd (vnd (xD X))))) p) ≠ -1 from hb)]
        by_cases hf : f = 0
        · rw [am_cif_t hf]
          obtain ⟨M3, g1, g2, g3⟩ := m_sleep (x := 0) hS hP hR c2.2.1 (by omega) l1 l2 h1 h2
          refine ⟨M3, some (am_i l), some (am_i f), ?_, MX_row (X := vSD X (vnd (vnd (xD X)))) hP c2 g3 g2, fr_tr frr (fr_mono g3.1 (by omega) (by omega))⟩
          simp (disch := omega) only [b_Mo_dayByDraws_10, b_Mo_dayByDraws_16, b_Mo_dayByDraws_19, b_Mo_dayByDraws_26, b_Mo_dayByDraws_34, b_Mo_dayByDraws_41, b_Mo_dayByDraws_57, b_Mo_dayByDraws_60, b_Mo_dayByDraws_64, b_Mo_dayByDraws_71, mo0, mr0, mr1, mr2, mr3, mr4, mr5, mr6, mr7, mr8, mr9, mr10, mr11, mk0, mk1, mk2, mk3, mk4, mk5, mk6, mk7, mk8, mk9, mk10, mk11, e1, nl, d1, d2, e2, e3, g1, am_ck_T, am_ck_t, am_cif_t, am_cif_f, am_cif_T, am_cif_F, am_then_s, am_push_s, am_push_n, true_and, and_true, true_or, or_true, Int.cast_ofNat_Int, am_02, am_22, not_true_eq_false, not_false_eq_true]
        · rw [am_cif_f hf]
          obtain ⟨M3, g1, g2, g3⟩ := m_ride (n := 5) (x := 0) hS hP hR c2.1 c2.2.1 (by omega) l1 l2 h1 h2 (by omega) (by omega) hb
          refine ⟨M3, some (am_i l), some (am_i f), ?_, MX_row (X := vSD X (vnd (vnd (xD X)))) hP c2 g3 g2, fr_tr frr (fr_mono g3.1 (by omega) (by omega))⟩
          simp (disch := omega) only [b_Mo_dayByDraws_10, b_Mo_dayByDraws_16, b_Mo_dayByDraws_19, b_Mo_dayByDraws_26, b_Mo_dayByDraws_34, b_Mo_dayByDraws_41, b_Mo_dayByDraws_57, b_Mo_dayByDraws_60, b_Mo_dayByDraws_74, b_Mo_dayByDraws_89, b_Mo_dayByDraws_92, mo0, mr0, mr1, mr2, mr3, mr4, mr5, mr6, mr7, mr8, mr9, mr10, mr11, mk0, mk1, mk2, mk3, mk4, mk5, mk6, mk7, mk8, mk9, mk10, mk11, e1, nl, d1, d2, e2, e3, g1, am_ck_T, am_ck_t, am_cif_t, am_cif_f, am_cif_T, am_cif_F, am_then_s, am_push_s, am_push_n, true_and, and_true, true_or, or_true, Int.cast_ofNat_Int, am_02, am_22, not_true_eq_false, not_false_eq_true]
      · rw [bo_f hb] at e3
        rw [am_cif_f (show ¬ vbp (xP (vSD X (vnd (vnd (xD X))))) (xR (vSD X (vnd (vnd (xD X))))) l (vgt (xR (vSD X (vnd (vnd (xD X))))) p) ≠ -1 from hb)]
        refine ⟨M2, some (am_i l), some (am_i f), ?_, c2, frr⟩
        simp (disch := omega) only [b_Mo_dayByDraws_10, b_Mo_dayByDraws_16, b_Mo_dayByDraws_19, b_Mo_dayByDraws_26, b_Mo_dayByDraws_34, b_Mo_dayByDraws_41, b_Mo_dayByDraws_57, b_Mo_dayByDraws_74, b_Mo_dayByDraws_89, mo0, mr0, mr1, mr2, mr3, mr4, mr5, mr6, mr7, mr8, mr9, mr10, mr11, mk0, mk1, mk2, mk3, mk4, mk5, mk6, mk7, mk8, mk9, mk10, mk11, e1, nl, d1, d2, e2, e3, am_ck_T, am_ck_t, am_cif_t, am_cif_f, am_cif_T, am_cif_F, am_then_s, am_push_s, am_push_n, true_and, and_true, true_or, or_true, Int.cast_ofNat_Int, am_02, am_22, not_true_eq_false, not_false_eq_true]
    · rw [am_cif_f (fun h => hl h.2)]
      refine ⟨M, o2, o3, ?_, c, fr_rf⟩
      simp (disch := omega) only [b_Mo_dayByDraws_10, b_Mo_dayByDraws_16, b_Mo_dayByDraws_19, mo0, mr0, mr1, mr2, mr3, mr4, mr5, mr6, mr7, mr8, mr9, mr10, mr11, mk0, mk1, mk2, mk3, mk4, mk5, mk6, mk7, mk8, mk9, mk10, mk11, e1, nl, am_ck_T, am_ck_t, am_cif_t, am_cif_f, am_cif_T, am_cif_F, am_then_s, am_push_s, am_push_n, true_and, and_true, true_or, or_true, Int.cast_ofNat_Int, am_02, am_22, not_true_eq_false, not_false_eq_true]
  · rw [bo_t hv] at e1
    rw [am_cif_f (fun h => hv h.1)]
    refine ⟨M, o2, o3, ?_, c, fr_rf⟩
    simp (disch := omega) only [b_Mo_dayByDraws_10, b_Mo_dayByDraws_16, mo0, mr0, mr1, mr2, mr3, mr4, mr5, mr6, mr7, mr8, mr9, mr10, mr11, mk0, mk1, mk2, mk3, mk4, mk5, mk6, mk7, mk8, mk9, mk10, mk11, e1, am_ck_T, am_ck_t, am_cif_t, am_cif_f, am_cif_T, am_cif_F, am_then_s, am_push_s, am_push_n, true_and, and_true, true_or, or_true, Int.cast_ofNat_Int, am_02, am_22, not_true_eq_false, not_false_eq_true]
end DRIFT
