/-! ways, reached, cuts: the commands -/
section WAYS2
variable {S : am_S} {M M1 : am_M} {X : vX} {B : Int} {P : vP} {R : vR} {b : Nat} {x : Int}
theorem Q1_rng {g0 : Int} (h : 0 ≤ g0 ∧ g0 < vnp P) : ∀ g, (fun k : Int => k = g0) g → 0 ≤ g ∧ g < vnp P := fun g z => by
  have z' : g = g0 := z
  rw [z']; exact h
theorem p_ways (hS : ly S) {p q t : Int} (i1 : am_Ri p) (i2 : am_Ri q) (i3 : am_Ri t) : Pr S 78 153 [am_i p, am_i q, am_i t] := by
  intro B X h0 h1 ok
  obtain ⟨tp0, tp1, tp2, tp3, tp4, tp5, tp6, tp7, tp8, tp9⟩ := hS.1
  obtain ⟨wa0, wa1, wa2⟩ := hS.2.2.2.2.2.2.1
  obtain ⟨mo0, ⟨mr0, mr1, mr2, mr3, mr4, mr5, mr6, mr7, mr8, mr9, mr10, mr11⟩, mk0, mk1, mk2, mk3, mk4, mk5, mk6, mk7, mk8, mk9, mk10, mk11⟩ := hS.2.2.2.2.2.2.2.2.2.2
  have hP := ok.1
  have hR := ok.2.1
  have hP1 := hP.1
  have hP2 := hP.2.1
  have hP3 := hP.2.2.1
  have hP4 := hP.2.2.2.1
  have lf14 : lf 14 := by unfold lf; omega
  obtain ⟨li0, li1, li2, li3, li4, li5, li6, li7⟩ := hS.2.2.2.2.1 14 lf14
  by_cases hp : 0 ≤ p ∧ p < vnp (xP X)
  · by_cases hq : 0 ≤ q ∧ q < vnp (xP X)
    · by_cases ht : 0 ≤ t ∧ t ≤ 1
      · by_cases hv : vlv (xR X) p
        · have g1 := hR.2.1 p hp.1 hp.2
          obtain ⟨f, f1, f2, f3⟩ := vE_di (p := p) (w := -1) hP hR (Q := fun k => k = vgt (xR X) p) (Q1_rng g1.2) q
          have rv := vff_rng (vlc (xP X) (xR X) p q f) (vnl (xP X)).toNat 0
          refine ⟨if t = 0 then f else if 1 ≤ f then vff (vlc (xP X) (xR X) p q f) (vnl (xP X)).toNat 0 else -1, X, ?_, okX_B ok (by omega), fun M c => ?_, fun M c => ?_⟩
          · by_cases t0 : t = 0
            · rw [if_pos t0]; exact ⟨by omega, by omega⟩
            · rw [if_neg t0]
              by_cases ff : 1 ≤ f
              · rw [if_pos ff]; exact ⟨by omega, by omega⟩
              · rw [if_neg ff]; exact ⟨by omega, by omega⟩
          · have e1 := k_isPerson hS hP c.1 i1
            have e2 := k_isPerson hS hP c.1 i2
            have e3 := k_lives hS lf14 c.2.1 p
            rw [bo_t hp] at e1
            rw [bo_t hq] at e2
            rw [bo_t hv] at e3
            obtain ⟨M1, d1, d2, d3⟩ := k_lay (w := -1) hS lf14 (by omega) hP hR c.1 c.2.1 hp.1 hp.2 ⟨by omega, by omega⟩
            have c1 := CX_145 c d3
            have e4 := c1.2.1.2.1 p hp.1 hp.2
            have e5 := k_fewest hS d2 (vE_8 hP hR) (vE_st hP hR (Q1_rng g1.2)) (bs_one g1.2.1 (by omega)) f1 hq.1 (by omega)
            refine ⟨M1, ?_, c1, fr_mono d3 (by omega) (by omega)⟩
            by_cases t0 : t = 0
            · rw [if_pos t0]
              simp (disch := omega) only [c_Pe_ways, b_Pe_ways_0, b_Pe_ways_5, b_Pe_ways_8, b_Pe_ways_13, b_Pe_ways_16, b_Pe_ways_19, b_Pe_ways_23, b_Pe_ways_28, b_Pe_ways_31, b_Pe_ways_39, b_Pe_ways_42, b_Pe_ways_45, b_Pe_ways_58, b_Pe_ways_77, b_Pe_ways_83, b_Pe_ways_88, b_Pe_ways_103, tp0, tp1, tp2, tp3, tp4, tp5, tp6, tp7, tp8, tp9, wa0, wa1, wa2, li0, li1, li2, li3, li4, li5, li6, li7, e1, e2, e3, d1, e4, e5, am_ck_T, am_ck_t, am_cif_t, am_cif_f, am_cif_T, am_cif_F, am_then_s, am_push_s, am_push_n, true_and, and_true, true_or, or_true, Int.cast_ofNat_Int, am_02, am_22, not_true_eq_false, not_false_eq_true]
            · rw [if_neg t0]
              by_cases ff : 1 ≤ f
              · rw [if_pos ff]
                have e6 := k_firstLine hS lf14 hP hR c1.1 c1.2.1 d2 hp.1 hp.2 hq.1 hq.2 f1 ff f3
                simp (disch := omega) only [c_Pe_ways, b_Pe_ways_0, b_Pe_ways_5, b_Pe_ways_8, b_Pe_ways_13, b_Pe_ways_16, b_Pe_ways_19, b_Pe_ways_23, b_Pe_ways_28, b_Pe_ways_31, b_Pe_ways_39, b_Pe_ways_42, b_Pe_ways_45, b_Pe_ways_58, b_Pe_ways_77, b_Pe_ways_83, b_Pe_ways_88, b_Pe_ways_103, tp0, tp1, tp2, tp3, tp4, tp5, tp6, tp7, tp8, tp9, wa0, wa1, wa2, li0, li1, li2, li3, li4, li5, li6, li7, e1, e2, e3, d1, e4, e5, e6, am_ck_T, am_ck_t, am_cif_t, am_cif_f, am_cif_T, am_cif_F, am_then_s, am_push_s, am_push_n, true_and, and_true, true_or, or_true, Int.cast_ofNat_Int, am_02, am_22, not_true_eq_false, not_false_eq_true]
              · rw [if_neg ff]
                simp (disch := omega) only [c_Pe_ways, b_Pe_ways_0, b_Pe_ways_5, b_Pe_ways_8, b_Pe_ways_13, b_Pe_ways_16, b_Pe_ways_19, b_Pe_ways_23, b_Pe_ways_28, b_Pe_ways_31, b_Pe_ways_39, b_Pe_ways_42, b_Pe_ways_45, b_Pe_ways_58, b_Pe_ways_77, b_Pe_ways_83, b_Pe_ways_88, b_Pe_ways_103, tp0, tp1, tp2, tp3, tp4, tp5, tp6, tp7, tp8, tp9, wa0, wa1, wa2, li0, li1, li2, li3, li4, li5, li6, li7, e1, e2, e3, d1, e4, e5, c_Wa_firstLine, b_Wa_firstLine_0, b_Wa_firstLine_6, am_ck_T, am_ck_t, am_cif_t, am_cif_f, am_cif_T, am_cif_F, am_then_s, am_push_s, am_push_n, true_and, and_true, true_or, or_true, Int.cast_ofNat_Int, am_02, am_22, not_true_eq_false, not_false_eq_true]
          · have e1 := m_isPerson hS hP c.1 i1
            have e2 := m_isPerson hS hP c.1 i2
            have e3 := m_isDead hS c.2.1 (by omega) p
            have e4 := m_in (S := S) (M := M) (v := t) (lo := 0) (hi := 1) ⟨by omega, by omega⟩ ⟨by omega, by omega⟩ ⟨by omega, by omega⟩
            rw [bo_t hp] at e1
            rw [bo_t hq] at e2
            rw [bo_f (not_not_intro hv)] at e3
            rw [bo_t ht] at e4
            have e5 : M 165 (64 + p) = vgt (xR X) p := by have := c.2.1.2.1 p hp.1 hp.2; rw [Int.zero_add] at this; exact this
            have al := m_allLines hS c.1
            obtain ⟨M1, d1, d2, d3⟩ := m_layWays (w := -1) hS hP hR c.1 c.2.1 (by omega) hp.1 hp.2 g1.2.1 g1.2.2 (al_w hP)
            have c1 := MX_172 hP c d3
            have d4 := d2 q hq.1 (by omega) f f1
            by_cases t0 : t = 0
            · rw [if_pos t0]
              refine ⟨M1, ?_, c1, fr_mono d3 (by omega) (by omega)⟩
              by_cases fn : f = -1
              · have d5 := d4.1 fn
                rw [fn]
                simp (disch := omega) only [c_Mo_ways, b_Mo_ways_0, b_Mo_ways_5, b_Mo_ways_8, b_Mo_ways_13, b_Mo_ways_16, b_Mo_ways_19, b_Mo_ways_26, b_Mo_ways_29, b_Mo_ways_32, b_Mo_ways_38, b_Mo_ways_41, b_Mo_ways_44, b_Mo_ways_60, b_Mo_ways_63, b_Mo_ways_75, b_Mo_ways_82, b_Mo_ways_87, b_Mo_ways_94, b_Mo_ways_99, b_Mo_ways_103, b_Mo_ways_105, b_Mo_ways_106, b_Mo_ways_109, b_Mo_ways_118, b_Mo_ways_128, b_Mo_ways_131, b_Mo_ways_134, b_Mo_ways_140, mo0, mr0, mr1, mr2, mr3, mr4, mr5, mr6, mr7, mr8, mr9, mr10, mr11, mk0, mk1, mk2, mk3, mk4, mk5, mk6, mk7, mk8, mk9, mk10, mk11, e1, e2, e3, e4, e5, al, d1, d5, am_ck_T, am_ck_t, am_cif_t, am_cif_f, am_cif_T, am_cif_F, am_then_s, am_push_s, am_push_n, true_and, and_true, true_or, or_true, Int.cast_ofNat_Int, am_02, am_22, not_true_eq_false, not_false_eq_true]
              · have d5 := d4.2 fn
                simp (disch := omega) only [c_Mo_ways, b_Mo_ways_0, b_Mo_ways_5, b_Mo_ways_8, b_Mo_ways_13, b_Mo_ways_16, b_Mo_ways_19, b_Mo_ways_26, b_Mo_ways_29, b_Mo_ways_32, b_Mo_ways_38, b_Mo_ways_41, b_Mo_ways_44, b_Mo_ways_60, b_Mo_ways_63, b_Mo_ways_75, b_Mo_ways_82, b_Mo_ways_87, b_Mo_ways_94, b_Mo_ways_99, b_Mo_ways_103, b_Mo_ways_105, b_Mo_ways_106, b_Mo_ways_109, b_Mo_ways_118, b_Mo_ways_128, b_Mo_ways_131, b_Mo_ways_134, b_Mo_ways_140, mo0, mr0, mr1, mr2, mr3, mr4, mr5, mr6, mr7, mr8, mr9, mr10, mr11, mk0, mk1, mk2, mk3, mk4, mk5, mk6, mk7, mk8, mk9, mk10, mk11, e1, e2, e3, e4, e5, al, d1, d5, am_ck_T, am_ck_t, am_cif_t, am_cif_f, am_cif_T, am_cif_F, am_then_s, am_push_s, am_push_n, true_and, and_true, true_or, or_true, Int.cast_ofNat_Int, am_02, am_22, not_true_eq_false, not_false_eq_true]
            · rw [if_neg t0]
              by_cases ff : 1 ≤ f
              · rw [if_pos ff]
                have d5 := d4.2 (by omega)
                have loop : ∀ (n : Nat) (l : Int) (M : am_M), 0 ≤ l → l + n = vnl (xP X) → MX X M → ∃ M1, am_R 153 109 [some (am_r 164), some (am_i p), some (am_i q), some (am_i t), some (am_i f), some (am_i l)] [] S M = some (some (am_i (vff (vlc (xP X) (xR X) p q f) n l)), S, M1) ∧ MX X M1 ∧ fr 172 172 M M1 := by
                  intro n
                  induction n with
                  | zero =>
                    intro l M l1 l2 c
                    have n2 := c.1.2.1
                    refine ⟨M, ?_, c, fr_rf⟩
                    rw [b_Mo_ways_109]
                    simp (disch := omega) only [b_Mo_ways_140, mo0, mr0, mr1, mr2, mr3, mr4, mr5, mr6, mr7, mr8, mr9, mr10, mr11, mk0, mk1, mk2, mk3, mk4, mk5, mk6, mk7, mk8, mk9, mk10, mk11, n2, vff, am_ck_T, am_ck_t, am_cif_t, am_cif_f, am_cif_T, am_cif_F, am_then_s, am_push_s, am_push_n, true_and, and_true, true_or, or_true, Int.cast_ofNat_Int, am_02, am_22, not_true_eq_false, not_false_eq_true]
                  | succ n ih =>
                    intro l M l1 l2 c
                    have n2 := c.1.2.1
                    obtain ⟨M1, u1, u2⟩ := m_leads hS hP hR c.1 c.2.1 l1 (show l < vnl (xP X) by omega) hp.1 hp.2 hq.1 hq.2 f1 ff f3
                    have c1 := MX_172 hP c u2
                    by_cases hc : vlc (xP X) (xR X) p q f l
                    · rw [bo_t hc] at u1
                      refine ⟨M1, ?_, c1, u2⟩
                      rw [b_Mo_ways_109]
                      unfold vff
                      rw [am_cif_t (show vlc (xP X) (xR X) p q f l from hc)]
                      simp (disch := omega) only [b_Mo_ways_118, b_Mo_ways_128, b_Mo_ways_131, mo0, mr0, mr1, mr2, mr3, mr4, mr5, mr6, mr7, mr8, mr9, mr10, mr11, mk0, mk1, mk2, mk3, mk4, mk5, mk6, mk7, mk8, mk9, mk10, mk11, n2, u1, am_ck_T, am_ck_t, am_cif_t, am_cif_f, am_cif_T, am_cif_F, am_then_s, am_push_s, am_push_n, true_and, and_true, true_or, or_true, Int.cast_ofNat_Int, am_02, am_22, not_true_eq_false, not_false_eq_true]
                    · rw [bo_f hc] at u1
                      obtain ⟨M2, w1, w2, w3⟩ := ih (l + 1) M1 (by omega) (by omega) c1
                      refine ⟨M2, ?_, w2, fr_tr u2 w3⟩
                      rw [b_Mo_ways_109]
                      unfold vff
                      rw [am_cif_f (show ¬ vlc (xP X) (xR X) p q f l from hc)]
                      simp (disch := omega) only [b_Mo_ways_118, b_Mo_ways_128, b_Mo_ways_134, mo0, mr0, mr1, mr2, mr3, mr4, mr5, mr6, mr7, mr8, mr9, mr10, mr11, mk0, mk1, mk2, mk3, mk4, mk5, mk6, mk7, mk8, mk9, mk10, mk11, n2, u1, w1, am_ck_T, am_ck_t, am_cif_t, am_cif_f, am_cif_T, am_cif_F, am_then_s, am_push_s, am_push_n, true_and, and_true, true_or, or_true, Int.cast_ofNat_Int, am_02, am_22, not_true_eq_false, not_false_eq_true]
                obtain ⟨M2, w1, w2, w3⟩ := loop (vnl (xP X)).toNat 0 M1 (by omega) (by omega) c1
                refine ⟨M2, ?_, w2, fr_mono (fr_tr d3 w3) (by omega) (by omega)⟩
                simp (disch := omega) only [c_Mo_ways, b_Mo_ways_0, b_Mo_ways_5, b_Mo_ways_8, b_Mo_ways_13, b_Mo_ways_19, b_Mo_ways_26, b_Mo_ways_32, b_Mo_ways_38, b_Mo_ways_44, b_Mo_ways_60, b_Mo_ways_63, b_Mo_ways_75, b_Mo_ways_82, b_Mo_ways_106, mo0, mr0, mr1, mr2, mr3, mr4, mr5, mr6, mr7, mr8, mr9, mr10, mr11, mk0, mk1, mk2, mk3, mk4, mk5, mk6, mk7, mk8, mk9, mk10, mk11, e1, e2, e3, e4, e5, al, d1, d5, w1, am_ck_T, am_ck_t, am_cif_t, am_cif_f, am_cif_T, am_cif_F, am_then_s, am_push_s, am_push_n, true_and, and_true, true_or, or_true, Int.cast_ofNat_Int, am_02, am_22, not_true_eq_false, not_false_eq_true]
              · rw [if_neg ff]
                refine ⟨M1, ?_, c1, fr_mono d3 (by omega) (by omega)⟩
                by_cases fn : f = -1
                · have d5 := d4.1 fn
                  simp (disch := omega) only [c_Mo_ways, b_Mo_ways_0, b_Mo_ways_5, b_Mo_ways_8, b_Mo_ways_13, b_Mo_ways_16, b_Mo_ways_19, b_Mo_ways_26, b_Mo_ways_29, b_Mo_ways_32, b_Mo_ways_38, b_Mo_ways_41, b_Mo_ways_44, b_Mo_ways_60, b_Mo_ways_63, b_Mo_ways_75, b_Mo_ways_82, b_Mo_ways_87, b_Mo_ways_94, b_Mo_ways_99, b_Mo_ways_103, b_Mo_ways_105, b_Mo_ways_106, b_Mo_ways_109, b_Mo_ways_118, b_Mo_ways_128, b_Mo_ways_131, b_Mo_ways_134, b_Mo_ways_140, mo0, mr0, mr1, mr2, mr3, mr4, mr5, mr6, mr7, mr8, mr9, mr10, mr11, mk0, mk1, mk2, mk3, mk4, mk5, mk6, mk7, mk8, mk9, mk10, mk11, e1, e2, e3, e4, e5, al, d1, d5, am_ck_T, am_ck_t, am_cif_t, am_cif_f, am_cif_T, am_cif_F, am_then_s, am_push_s, am_push_n, true_and, and_true, true_or, or_true, Int.cast_ofNat_Int, am_02, am_22, not_true_eq_false, not_false_eq_true]
                · have d5 := d4.2 fn
                  simp (disch := omega) only [c_Mo_ways, b_Mo_ways_0, b_Mo_ways_5, b_Mo_ways_8, b_Mo_ways_13, b_Mo_ways_16, b_Mo_ways_19, b_Mo_ways_26, b_Mo_ways_29, b_Mo_ways_32, b_Mo_ways_38, b_Mo_ways_41, b_Mo_ways_44, b_Mo_ways_60, b_Mo_ways_63, b_Mo_ways_75, b_Mo_ways_82, b_Mo_ways_87, b_Mo_ways_94, b_Mo_ways_99, b_Mo_ways_103, b_Mo_ways_105, b_Mo_ways_106, b_Mo_ways_109, b_Mo_ways_118, b_Mo_ways_128, b_Mo_ways_131, b_Mo_ways_134, b_Mo_ways_140, mo0, mr0, mr1, mr2, mr3, mr4, mr5, mr6, mr7, mr8, mr9, mr10, mr11, mk0, mk1, mk2, mk3, mk4, mk5, mk6, mk7, mk8, mk9, mk10, mk11, e1, e2, e3, e4, e5, al, d1, d5, am_ck_T, am_ck_t, am_cif_t, am_cif_f, am_cif_T, am_cif_F, am_then_s, am_push_s, am_push_n, true_and, and_true, true_or, or_true, Int.cast_ofNat_Int, am_02, am_22, not_true_eq_false, not_false_eq_true]
        · refine ⟨-1000000003, X, ⟨by omega, by omega⟩, okX_B ok (by omega), CC_id (fun M c => ?_), MM_id (fun M c => ?_)⟩
          · have e1 := k_isPerson hS hP c.1 i1
            have e2 := k_isPerson hS hP c.1 i2
            have e3 := k_lives hS lf14 c.2.1 p
            rw [bo_t hp] at e1
            rw [bo_t hq] at e2
            rw [bo_f hv] at e3
            simp (disch := omega) only [c_Pe_ways, b_Pe_ways_0, b_Pe_ways_5, b_Pe_ways_8, b_Pe_ways_13, b_Pe_ways_16, b_Pe_ways_19, b_Pe_ways_23, b_Pe_ways_28, b_Pe_ways_31, b_Pe_ways_39, b_Pe_ways_42, b_Pe_ways_45, b_Pe_ways_58, b_Pe_ways_77, b_Pe_ways_83, b_Pe_ways_88, b_Pe_ways_103, tp0, tp1, tp2, tp3, tp4, tp5, tp6, tp7, tp8, tp9, wa0, wa1, wa2, li0, li1, li2, li3, li4, li5, li6, li7, e1, e2, e3, am_ck_T, am_ck_t, am_cif_t, am_cif_f, am_cif_T, am_cif_F, am_then_s, am_push_s, am_push_n, true_and, and_true, true_or, or_true, Int.cast_ofNat_Int, am_02, am_22, not_true_eq_false, not_false_eq_true]
          · have e1 := m_isPerson hS hP c.1 i1
            have e2 := m_isPerson hS hP c.1 i2
            have e3 := m_isDead hS c.2.1 (by omega) p
            have e4 := m_in (S := S) (M := M) (v := t) (lo := 0) (hi := 1) ⟨by omega, by omega⟩ ⟨by omega, by omega⟩ ⟨by omega, by omega⟩
            rw [bo_t hp] at e1
            rw [bo_t hq] at e2
            rw [bo_t hv] at e3
            rw [bo_t ht] at e4
            simp (disch := omega) only [c_Mo_ways, b_Mo_ways_0, b_Mo_ways_5, b_Mo_ways_8, b_Mo_ways_13, b_Mo_ways_19, b_Mo_ways_26, b_Mo_ways_32, b_Mo_ways_38, b_Mo_ways_41, mo0, mr0, mr1, mr2, mr3, mr4, mr5, mr6, mr7, mr8, mr9, mr10, mr11, mk0, mk1, mk2, mk3, mk4, mk5, mk6, mk7, mk8, mk9, mk10, mk11, e1, e2, e3, e4, am_ck_T, am_ck_t, am_cif_t, am_cif_f, am_cif_T, am_cif_F, am_then_s, am_push_s, am_push_n, true_and, and_true, true_or, or_true, Int.cast_ofNat_Int, am_02, am_22, not_true_eq_false, not_false_eq_true]
      · refine ⟨-1000000002, X, ⟨by omega, by omega⟩, okX_B ok (by omega), CC_id (fun M c => ?_), MM_id (fun M c => ?_)⟩
        · have e1 := k_isPerson hS hP c.1 i1
          have e2 := k_isPerson hS hP c.1 i2
          rw [bo_t hp] at e1
          rw [bo_t hq] at e2
          by_cases t0 : t < 0
          · simp (disch := omega) only [c_Pe_ways, b_Pe_ways_0, b_Pe_ways_5, b_Pe_ways_8, b_Pe_ways_13, b_Pe_ways_16, b_Pe_ways_19, b_Pe_ways_23, b_Pe_ways_28, b_Pe_ways_31, b_Pe_ways_39, b_Pe_ways_42, b_Pe_ways_45, b_Pe_ways_58, b_Pe_ways_77, b_Pe_ways_83, b_Pe_ways_88, b_Pe_ways_103, tp0, tp1, tp2, tp3, tp4, tp5, tp6, tp7, tp8, tp9, wa0, wa1, wa2, li0, li1, li2, li3, li4, li5, li6, li7, e1, e2, am_ck_T, am_ck_t, am_cif_t, am_cif_f, am_cif_T, am_cif_F, am_then_s, am_push_s, am_push_n, true_and, and_true, true_or, or_true, Int.cast_ofNat_Int, am_02, am_22, not_true_eq_false, not_false_eq_true]
          · simp (disch := omega) only [c_Pe_ways, b_Pe_ways_0, b_Pe_ways_5, b_Pe_ways_8, b_Pe_ways_13, b_Pe_ways_16, b_Pe_ways_19, b_Pe_ways_23, b_Pe_ways_28, b_Pe_ways_31, b_Pe_ways_39, b_Pe_ways_42, b_Pe_ways_45, b_Pe_ways_58, b_Pe_ways_77, b_Pe_ways_83, b_Pe_ways_88, b_Pe_ways_103, tp0, tp1, tp2, tp3, tp4, tp5, tp6, tp7, tp8, tp9, wa0, wa1, wa2, li0, li1, li2, li3, li4, li5, li6, li7, e1, e2, am_ck_T, am_ck_t, am_cif_t, am_cif_f, am_cif_T, am_cif_F, am_then_s, am_push_s, am_push_n, true_and, and_true, true_or, or_true, Int.cast_ofNat_Int, am_02, am_22, not_true_eq_false, not_false_eq_true]
        · have e1 := m_isPerson hS hP c.1 i1
          have e2 := m_isPerson hS hP c.1 i2
          have e4 := m_in (S := S) (M := M) (v := t) (lo := 0) (hi := 1) ⟨by omega, by omega⟩ ⟨by omega, by omega⟩ ⟨by omega, by omega⟩
          rw [bo_t hp] at e1
          rw [bo_t hq] at e2
          rw [bo_f ht] at e4
          simp (disch := omega) only [c_Mo_ways, b_Mo_ways_0, b_Mo_ways_5, b_Mo_ways_8, b_Mo_ways_13, b_Mo_ways_19, b_Mo_ways_26, b_Mo_ways_29, mo0, mr0, mr1, mr2, mr3, mr4, mr5, mr6, mr7, mr8, mr9, mr10, mr11, mk0, mk1, mk2, mk3, mk4, mk5, mk6, mk7, mk8, mk9, mk10, mk11, e1, e2, e4, am_ck_T, am_ck_t, am_cif_t, am_cif_f, am_cif_T, am_cif_F, am_then_s, am_push_s, am_push_n, true_and, and_true, true_or, or_true, Int.cast_ofNat_Int, am_02, am_22, not_true_eq_false, not_false_eq_true]
    · refine ⟨-1000000001, X, ⟨by omega, by omega⟩, okX_B ok (by omega), CC_id (fun M c => ?_), MM_id (fun M c => ?_)⟩
      · have e1 := k_isPerson hS hP c.1 i1
        have e2 := k_isPerson hS hP c.1 i2
        rw [bo_t hp] at e1
        rw [bo_f hq] at e2
        simp (disch := omega) only [c_Pe_ways, b_Pe_ways_0, b_Pe_ways_5, b_Pe_ways_8, b_Pe_ways_13, b_Pe_ways_16, b_Pe_ways_19, b_Pe_ways_23, b_Pe_ways_28, b_Pe_ways_31, b_Pe_ways_39, b_Pe_ways_42, b_Pe_ways_45, b_Pe_ways_58, b_Pe_ways_77, b_Pe_ways_83, b_Pe_ways_88, b_Pe_ways_103, tp0, tp1, tp2, tp3, tp4, tp5, tp6, tp7, tp8, tp9, wa0, wa1, wa2, li0, li1, li2, li3, li4, li5, li6, li7, e1, e2, am_ck_T, am_ck_t, am_cif_t, am_cif_f, am_cif_T, am_cif_F, am_then_s, am_push_s, am_push_n, true_and, and_true, true_or, or_true, Int.cast_ofNat_Int, am_02, am_22, not_true_eq_false, not_false_eq_true]
      · have e1 := m_isPerson hS hP c.1 i1
        have e2 := m_isPerson hS hP c.1 i2
        rw [bo_t hp] at e1
        rw [bo_f hq] at e2
        simp (disch := omega) only [c_Mo_ways, b_Mo_ways_0, b_Mo_ways_5, b_Mo_ways_8, b_Mo_ways_13, b_Mo_ways_16, mo0, mr0, mr1, mr2, mr3, mr4, mr5, mr6, mr7, mr8, mr9, mr10, mr11, mk0, mk1, mk2, mk3, mk4, mk5, mk6, mk7, mk8, mk9, mk10, mk11, e1, e2, am_ck_T, am_ck_t, am_cif_t, am_cif_f, am_cif_T, am_cif_F, am_then_s, am_push_s, am_push_n, true_and, and_true, true_or, or_true, Int.cast_ofNat_Int, am_02, am_22, not_true_eq_false, not_false_eq_true]
  · refine ⟨-1000000001, X, ⟨by omega, by omega⟩, okX_B ok (by omega), CC_id (fun M c => ?_), MM_id (fun M c => ?_)⟩
    · have e1 := k_isPerson hS hP c.1 i1
      rw [bo_f hp] at e1
      simp (disch := omega) only [c_Pe_ways, b_Pe_ways_0, b_Pe_ways_5, b_Pe_ways_8, b_Pe_ways_13, b_Pe_ways_16, b_Pe_ways_19, b_Pe_ways_23, b_Pe_ways_28, b_Pe_ways_31, b_Pe_ways_39, b_Pe_ways_42, b_Pe_ways_45, b_Pe_ways_58, b_Pe_ways_77, b_Pe_ways_83, b_Pe_ways_88, b_Pe_ways_103, tp0, tp1, tp2, tp3, tp4, tp5, tp6, tp7, tp8, tp9, wa0, wa1, wa2, li0, li1, li2, li3, li4, li5, li6, li7, e1, am_ck_T, am_ck_t, am_cif_t, am_cif_f, am_cif_T, am_cif_F, am_then_s, am_push_s, am_push_n, true_and, and_true, true_or, or_true, Int.cast_ofNat_Int, am_02, am_22, not_true_eq_false, not_false_eq_true]
    · have e1 := m_isPerson hS hP c.1 i1
      rw [bo_f hp] at e1
      simp (disch := omega) only [c_Mo_ways, b_Mo_ways_0, b_Mo_ways_5, b_Mo_ways_16, mo0, mr0, mr1, mr2, mr3, mr4, mr5, mr6, mr7, mr8, mr9, mr10, mr11, mk0, mk1, mk2, mk3, mk4, mk5, mk6, mk7, mk8, mk9, mk10, mk11, e1, am_ck_T, am_ck_t, am_cif_t, am_cif_f, am_cif_T, am_cif_F, am_then_s, am_push_s, am_push_n, true_and, and_true, true_or, or_true, Int.cast_ofNat_Int, am_02, am_22, not_true_eq_false, not_false_eq_true]
/-- the gates that p reaches from g0 -/
def vrc (P : vP) (R : vR) (p g0 h : Int) : Prop := vN (vE P R p (-1)) (fun k => k = g0) 7 h
theorem m_reachedIn (hS : ly S) (hP : okP P) (hR : okR P B R) (mp : mP P M) (mr : mR P R x M) (hx : 0 ≤ x ∧ x ≤ 2706) {p g0 : Int} (h3 : 0 ≤ p) (h4 : p < vnp P) (h5 : 0 ≤ g0) (h6 : g0 < vnp P) {a : Int} (ha : bs a (vrc P R p g0)) : ∃ M1, am_call 155 [am_r 164, am_i x, am_i p, am_i g0] S M = some (some (am_i a), S, M1) ∧ fr 172 172 M M1 := by
  obtain ⟨mo0, ⟨mr0, mr1, mr2, mr3, mr4, mr5, mr6, mr7, mr8, mr9, mr10, mr11⟩, mk0, mk1, mk2, mk3, mk4, mk5, mk6, mk7, mk8, mk9, mk10, mk11⟩ := hS.2.2.2.2.2.2.2.2.2.2
  have hP1 := hP.1
  have hP2 := hP.2.1
  have hP3 := hP.2.2.1
  have hP4 := hP.2.2.2.1
  have al := m_allLines hS mp
  obtain ⟨M1, d1, d2, d3⟩ := m_layWays (w := -1) hS hP hR mp mr hx h3 h4 h5 h6 (al_w hP)
  have np : M1 164 6 = vnp P := (d3 164 (by omega) 6).trans mp.1
  have o1 := m_one (S := S) (M := M1) (v := 1) (Or.inr rfl)
  have o0 := m_one (S := S) (M := M1) (v := 0) (Or.inl rfl)
  have st := vE_st (p := p) (w := -1) hP hR (Q1_rng (P := P) (g0 := g0) ⟨h5, h6⟩)
  have rc : ∀ h, vrc P R p g0 h → 0 ≤ h ∧ h < vnp P := by
    have : ∀ (n : Nat) h, vN (vE P R p (-1)) (fun k => k = g0) n h → 0 ≤ h ∧ h < vnp P := by
      intro n
      induction n with
      | zero => intro h z; exact Q1_rng (P := P) (g0 := g0) ⟨h5, h6⟩ h z
      | succ n ih =>
        intro h z
        rcases z with z | ⟨g, _, e⟩
        · exact ih h z
        · have := vE_rng hP hR g h e; omega
    exact this 7
  have loop : ∀ (n : Nat) (g b : Int), 0 ≤ g → g + n = vnp P → bs b (fun h => h < g ∧ vrc P R p g0 h) → am_R 155 17 [some (am_r 164), some (am_i x), some (am_i p), some (am_i g0), some (am_i b), some (am_i g)] [] S M1 = some (some (am_i a), S, M1) := by
    intro n
    induction n with
    | zero =>
      intro g b g1 g2 hb
      have e : b = a := bs_ext (bs_c hb (fun h _ _ => ⟨fun z => z.2, fun z => ⟨by have := rc h z; omega, z⟩⟩)) ha
      rw [b_Mo_reachedIn_17, e]
      simp (disch := omega) only [b_Mo_reachedIn_60, mo0, mr0, mr1, mr2, mr3, mr4, mr5, mr6, mr7, mr8, mr9, mr10, mr11, mk0, mk1, mk2, mk3, mk4, mk5, mk6, mk7, mk8, mk9, mk10, mk11, np, am_ck_T, am_ck_t, am_cif_t, am_cif_f, am_cif_T, am_cif_F, am_then_s, am_push_s, am_push_n, true_and, and_true, true_or, or_true, Int.cast_ofNat_Int, am_02, am_22, not_true_eq_false, not_false_eq_true]
    | succ n ih =>
      intro g b g1 g2 hb
      obtain ⟨r, r1, r2, r3⟩ := vE_di (p := p) (w := -1) hP hR (Q1_rng (P := P) (g0 := g0) ⟨h5, h6⟩) g
      have r4 := d2 g g1 (by omega) r r1
      rw [b_Mo_reachedIn_17]
      by_cases hr : r = -1
      · have r5 := r4.1 hr
        have nv : ¬ vrc P R p g0 g := by
          rcases r1 with ⟨n, n1, _⟩ | ⟨n1, n2⟩
          · omega
          · exact n2 7
        have ih1 := ih (g + 1) b (by omega) (by omega) (bs_c hb (fun h _ _ => ⟨fun z => ⟨by have := z.1; omega, z.2⟩, fun z => ⟨by
          have z1 := z.1
          by_cases e : h = g
          · rw [e] at z; exact absurd z.2 nv
          · omega, z.2⟩⟩))
        have e0 := bs_or0 hb g1 (show g < 8 by omega)
        simp (disch := omega) only [b_Mo_reachedIn_26, b_Mo_reachedIn_44, b_Mo_reachedIn_45, b_Mo_reachedIn_48, mo0, mr0, mr1, mr2, mr3, mr4, mr5, mr6, mr7, mr8, mr9, mr10, mr11, mk0, mk1, mk2, mk3, mk4, mk5, mk6, mk7, mk8, mk9, mk10, mk11, np, r5, o0, e0, ih1, am_ck_T, am_ck_t, am_cif_t, am_cif_f, am_cif_T, am_cif_F, am_then_s, am_push_s, am_push_n, true_and, and_true, true_or, or_true, Int.cast_ofNat_Int, am_02, am_22, not_true_eq_false, not_false_eq_true]
      · have r5 := r4.2 hr
        have v : vrc P R p g0 g := by
          rcases r1 with ⟨n, n1, n2, n3⟩ | ⟨n1, n2⟩
          · exact st n g n2
          · exact absurd n1 hr
        have ih1 := ih (g + 1) (am_or b (am_shl 1 g)) (by omega) (by omega) (bs_c (bs_or hb (bs_one g1 (by omega))) (fun h _ _ => by
          constructor
          · rintro (z | z)
            · exact ⟨by have := z.1; omega, z.2⟩
            · have z' : h = g := z
              rw [z']; exact ⟨by omega, v⟩
          · rintro ⟨z1, z2⟩
            by_cases e : h = g
            · exact Or.inr e
            · exact Or.inl ⟨by omega, z2⟩))
        simp (disch := omega) only [b_Mo_reachedIn_26, b_Mo_reachedIn_40, b_Mo_reachedIn_45, b_Mo_reachedIn_48, mo0, mr0, mr1, mr2, mr3, mr4, mr5, mr6, mr7, mr8, mr9, mr10, mr11, mk0, mk1, mk2, mk3, mk4, mk5, mk6, mk7, mk8, mk9, mk10, mk11, np, r5, o1, ih1, am_ck_T, am_ck_t, am_cif_t, am_cif_f, am_cif_T, am_cif_F, am_then_s, am_push_s, am_push_n, true_and, and_true, true_or, or_true, Int.cast_ofNat_Int, am_02, am_22, not_true_eq_false, not_false_eq_true]
  have l0 := loop (vnp P).toNat 0 0 (by omega) (by omega) (bs_c bs_0 (fun h h1 _ => ⟨fun z => z.elim, fun z => by have := z.1; omega⟩))
  refine ⟨M1, ?_, d3⟩
  simp (disch := omega) only [c_Mo_reachedIn, b_Mo_reachedIn_0, b_Mo_reachedIn_8, b_Mo_reachedIn_11, mo0, mr0, mr1, mr2, mr3, mr4, mr5, mr6, mr7, mr8, mr9, mr10, mr11, mk0, mk1, mk2, mk3, mk4, mk5, mk6, mk7, mk8, mk9, mk10, mk11, al, d1, l0, am_ck_T, am_ck_t, am_cif_t, am_cif_f, am_cif_T, am_cif_F, am_then_s, am_push_s, am_push_n, true_and, and_true, true_or, or_true, Int.cast_ofNat_Int, am_02, am_22, not_true_eq_false, not_false_eq_true]
theorem p_reached (hS : ly S) {p : Int} (i1 : am_Ri p) : Pr S 79 156 [am_i p] := by
  intro B X h0 h1 ok
  obtain ⟨tp0, tp1, tp2, tp3, tp4, tp5, tp6, tp7, tp8, tp9⟩ := hS.1
  obtain ⟨wa0, wa1, wa2⟩ := hS.2.2.2.2.2.2.1
  obtain ⟨mo0, ⟨mr0, mr1, mr2, mr3, mr4, mr5, mr6, mr7, mr8, mr9, mr10, mr11⟩, mk0, mk1, mk2, mk3, mk4, mk5, mk6, mk7, mk8, mk9, mk10, mk11⟩ := hS.2.2.2.2.2.2.2.2.2.2
  have hP := ok.1
  have hR := ok.2.1
  have hP1 := hP.1
  have hP2 := hP.2.1
  have hP3 := hP.2.2.1
  have hP4 := hP.2.2.2.1
  have lf14 : lf 14 := by unfold lf; omega
  obtain ⟨li0, li1, li2, li3, li4, li5, li6, li7⟩ := hS.2.2.2.2.1 14 lf14
  by_cases hp : 0 ≤ p ∧ p < vnp (xP X)
  · by_cases hv : vlv (xR X) p
    · have g1 := hR.2.1 p hp.1 hp.2
      obtain ⟨a, ha⟩ := bs_ex (vrc (xP X) (xR X) p (vgt (xR X) p))
      have ra := bs_rng ha
      refine ⟨a, X, ⟨by omega, by omega⟩, okX_B ok (by omega), fun M c => ?_, fun M c => ?_⟩
      · have e1 := k_isPerson hS hP c.1 i1
        have e3 := k_lives hS lf14 c.2.1 p
        rw [bo_t hp] at e1
        rw [bo_t hv] at e3
        obtain ⟨M1, d1, d2, d3⟩ := k_lay (w := -1) hS lf14 (by omega) hP hR c.1 c.2.1 hp.1 hp.2 ⟨by omega, by omega⟩
        have c1 := CX_145 c d3
        have e4 := c1.2.1.2.1 p hp.1 hp.2
        obtain ⟨a', e5, e6⟩ := k_closure hS d2 (vE_8 hP hR) (bs_one g1.2.1 (by omega))
        have : a' = a := bs_ext e6 ha
        rw [this] at e5
        refine ⟨M1, ?_, c1, fr_mono d3 (by omega) (by omega)⟩
        simp (disch := omega) only [c_Pe_reached, b_Pe_reached_0, b_Pe_reached_5, b_Pe_reached_8, b_Pe_reached_11, b_Pe_reached_19, b_Pe_reached_22, b_Pe_reached_25, b_Pe_reached_38, b_Pe_reached_56, tp0, tp1, tp2, tp3, tp4, tp5, tp6, tp7, tp8, tp9, wa0, wa1, wa2, li0, li1, li2, li3, li4, li5, li6, li7, e1, e3, d1, e4, e5, am_ck_T, am_ck_t, am_cif_t, am_cif_f, am_cif_T, am_cif_F, am_then_s, am_push_s, am_push_n, true_and, and_true, true_or, or_true, Int.cast_ofNat_Int, am_02, am_22, not_true_eq_false, not_false_eq_true]
      · have e1 := m_isPerson hS hP c.1 i1
        have e3 := m_isDead hS c.2.1 (by omega) p
        rw [bo_t hp] at e1
        rw [bo_f (not_not_intro hv)] at e3
        have e5 : M 165 (64 + p) = vgt (xR X) p := by have := c.2.1.2.1 p hp.1 hp.2; rw [Int.zero_add] at this; exact this
        obtain ⟨M1, d1, d3⟩ := m_reachedIn hS hP hR c.1 c.2.1 (by omega) hp.1 hp.2 g1.2.1 g1.2.2 ha
        refine ⟨M1, ?_, MX_172 hP c d3, fr_mono d3 (by omega) (by omega)⟩
        simp (disch := omega) only [c_Mo_reached, b_Mo_reached_0, b_Mo_reached_5, b_Mo_reached_8, b_Mo_reached_11, b_Mo_reached_17, b_Mo_reached_20, b_Mo_reached_25, b_Mo_reached_40, mo0, mr0, mr1, mr2, mr3, mr4, mr5, mr6, mr7, mr8, mr9, mr10, mr11, mk0, mk1, mk2, mk3, mk4, mk5, mk6, mk7, mk8, mk9, mk10, mk11, e1, e3, e5, d1, am_ck_T, am_ck_t, am_cif_t, am_cif_f, am_cif_T, am_cif_F, am_then_s, am_push_s, am_push_n, true_and, and_true, true_or, or_true, Int.cast_ofNat_Int, am_02, am_22, not_true_eq_false, not_false_eq_true]
    · refine ⟨-1000000003, X, ⟨by omega, by omega⟩, okX_B ok (by omega), CC_id (fun M c => ?_), MM_id (fun M c => ?_)⟩
      · have e1 := k_isPerson hS hP c.1 i1
        have e3 := k_lives hS lf14 c.2.1 p
        rw [bo_t hp] at e1
        rw [bo_f hv] at e3
        simp (disch := omega) only [c_Pe_reached, b_Pe_reached_0, b_Pe_reached_5, b_Pe_reached_8, b_Pe_reached_11, b_Pe_reached_19, b_Pe_reached_22, b_Pe_reached_25, b_Pe_reached_38, b_Pe_reached_56, tp0, tp1, tp2, tp3, tp4, tp5, tp6, tp7, tp8, tp9, wa0, wa1, wa2, li0, li1, li2, li3, li4, li5, li6, li7, e1, e3, am_ck_T, am_ck_t, am_cif_t, am_cif_f, am_cif_T, am_cif_F, am_then_s, am_push_s, am_push_n, true_and, and_true, true_or, or_true, Int.cast_ofNat_Int, am_02, am_22, not_true_eq_false, not_false_eq_true]
      · have e1 := m_isPerson hS hP c.1 i1
        have e3 := m_isDead hS c.2.1 (by omega) p
        rw [bo_t hp] at e1
        rw [bo_t hv] at e3
        simp (disch := omega) only [c_Mo_reached, b_Mo_reached_0, b_Mo_reached_5, b_Mo_reached_8, b_Mo_reached_11, b_Mo_reached_17, b_Mo_reached_20, b_Mo_reached_25, b_Mo_reached_40, mo0, mr0, mr1, mr2, mr3, mr4, mr5, mr6, mr7, mr8, mr9, mr10, mr11, mk0, mk1, mk2, mk3, mk4, mk5, mk6, mk7, mk8, mk9, mk10, mk11, e1, e3, am_ck_T, am_ck_t, am_cif_t, am_cif_f, am_cif_T, am_cif_F, am_then_s, am_push_s, am_push_n, true_and, and_true, true_or, or_true, Int.cast_ofNat_Int, am_02, am_22, not_true_eq_false, not_false_eq_true]
  · refine ⟨-1000000001, X, ⟨by omega, by omega⟩, okX_B ok (by omega), CC_id (fun M c => ?_), MM_id (fun M c => ?_)⟩
    · have e1 := k_isPerson hS hP c.1 i1
      rw [bo_f hp] at e1
      simp (disch := omega) only [c_Pe_reached, b_Pe_reached_0, b_Pe_reached_5, b_Pe_reached_8, b_Pe_reached_11, b_Pe_reached_19, b_Pe_reached_22, b_Pe_reached_25, b_Pe_reached_38, b_Pe_reached_56, tp0, tp1, tp2, tp3, tp4, tp5, tp6, tp7, tp8, tp9, wa0, wa1, wa2, li0, li1, li2, li3, li4, li5, li6, li7, e1, am_ck_T, am_ck_t, am_cif_t, am_cif_f, am_cif_T, am_cif_F, am_then_s, am_push_s, am_push_n, true_and, and_true, true_or, or_true, Int.cast_ofNat_Int, am_02, am_22, not_true_eq_false, not_false_eq_true]
    · have e1 := m_isPerson hS hP c.1 i1
      rw [bo_f hp] at e1
      simp (disch := omega) only [c_Mo_reached, b_Mo_reached_0, b_Mo_reached_5, b_Mo_reached_8, b_Mo_reached_11, b_Mo_reached_17, b_Mo_reached_20, b_Mo_reached_25, b_Mo_reached_40, mo0, mr0, mr1, mr2, mr3, mr4, mr5, mr6, mr7, mr8, mr9, mr10, mr11, mk0, mk1, mk2, mk3, mk4, mk5, mk6, mk7, mk8, mk9, mk10, mk11, e1, am_ck_T, am_ck_t, am_cif_t, am_cif_f, am_cif_T, am_cif_F, am_then_s, am_push_s, am_push_n, true_and, and_true, true_or, or_true, Int.cast_ofNat_Int, am_02, am_22, not_true_eq_false, not_false_eq_true]
end WAYS2
