/-! cuts -/
/-- p comes to q without line w -/
def vcm (P : vP) (R : vR) (p q w : Int) : Prop := vN (vE P R p w) (fun k => k = vgt R p) 7 q
section CUTS
variable {S : am_S} {M M1 : am_M} {X : vX} {B : Int} {P : vP} {R : vR} {b : Nat} {x : Int}
theorem vcm_di (hP : okP P) (hR : okR P B R) {p q w r : Int} (h3 : 0 ≤ p) (h4 : p < vnp P) (hr : vdi (vE P R p w) (fun k => k = vgt R p) q r) : r ≠ -1 ↔ vcm P R p q w := by
  have g1 := hR.2.1 p h3 h4
  rcases hr with ⟨n, n1, n2, n3⟩ | ⟨n1, n2⟩
  · exact ⟨fun _ => vE_st hP hR (Q1_rng (P := P) g1.2) n q n2, fun _ => by omega⟩
  · exact ⟨fun z => absurd n1 z, fun z => absurd z (n2 7)⟩
theorem k_comes (hS : ly S) (ok : okX B X) (c : CX X M) {p q w : Int} (h3 : 0 ≤ p) (h4 : p < vnp (xP X)) (q1 : 0 ≤ q) (q2 : q < vnp (xP X)) (hw : am_Ri w) : ∃ M1, am_call 100 [am_r 1, am_i p, am_i q, am_i w] S M = some (some (am_i (bo (vcm (xP X) (xR X) p q w))), S, M1) ∧ CX X M1 ∧ fr 145 145 M M1 := by
  obtain ⟨tp0, tp1, tp2, tp3, tp4, tp5, tp6, tp7, tp8, tp9⟩ := hS.1
  obtain ⟨wa0, wa1, wa2⟩ := hS.2.2.2.2.2.2.1
  have hP := ok.1
  have hR := ok.2.1
  have hP1 := hP.1
  have hP2 := hP.2.1
  have hP3 := hP.2.2.1
  have hP4 := hP.2.2.2.1
  have lf14 : lf 14 := by unfold lf; omega
  obtain ⟨li0, li1, li2, li3, li4, li5, li6, li7⟩ := hS.2.2.2.2.1 14 lf14
  have g1 := hR.2.1 p h3 h4
  obtain ⟨M1, d1, d2, d3⟩ := k_lay (w := w) hS lf14 (by omega) hP hR c.1 c.2.1 h3 h4 hw
  have c1 := CX_145 c d3
  have e4 := c1.2.1.2.1 p h3 h4
  obtain ⟨f, f1, f2, f3⟩ := vE_di (p := p) (w := w) hP hR (Q := fun k => k = vgt (xR X) p) (Q1_rng g1.2) q
  have e5 := k_fewest hS d2 (vE_8 hP hR) (vE_st hP hR (Q1_rng g1.2)) (bs_one g1.2.1 (by omega)) f1 q1 (by omega)
  have e6 := vcm_di hP hR h3 h4 f1
  refine ⟨M1, ?_, c1, d3⟩
  by_cases hc : vcm (xP X) (xR X) p q w
  · have hz := e6.mpr hc
    rw [bo_t hc]
    simp (disch := omega) only [c_Pe_comesWithout, b_Pe_comesWithout_0, b_Pe_comesWithout_13, b_Pe_comesWithout_32, b_Pe_comesWithout_36, b_Pe_comesWithout_40, b_Pe_comesWithout_41, tp0, tp1, tp2, tp3, tp4, tp5, tp6, tp7, tp8, tp9, wa0, wa1, wa2, li0, li1, li2, li3, li4, li5, li6, li7, d1, e4, e5, am_ck_T, am_ck_t, am_cif_t, am_cif_f, am_cif_T, am_cif_F, am_then_s, am_push_s, am_push_n, true_and, and_true, true_or, or_true, Int.cast_ofNat_Int, am_02, am_22, not_true_eq_false, not_false_eq_true]
  · have hz : f = -1 := Classical.byContradiction (fun z => hc (e6.mp z))
    rw [bo_f hc]
    simp (disch := omega) only [c_Pe_comesWithout, b_Pe_comesWithout_0, b_Pe_comesWithout_13, b_Pe_comesWithout_32, b_Pe_comesWithout_36, b_Pe_comesWithout_40, b_Pe_comesWithout_41, tp0, tp1, tp2, tp3, tp4, tp5, tp6, tp7, tp8, tp9, wa0, wa1, wa2, li0, li1, li2, li3, li4, li5, li6, li7, d1, e4, e5, am_ck_T, am_ck_t, am_cif_t, am_cif_f, am_cif_T, am_cif_F, am_then_s, am_push_s, am_push_n, true_and, and_true, true_or, or_true, Int.cast_ofNat_Int, am_02, am_22, not_true_eq_false, not_false_eq_true]
theorem p_cuts (hS : ly S) {p q : Int} (i1 : am_Ri p) (i2 : am_Ri q) : Pr S 80 157 [am_i p, am_i q] := by
  intro B X h0 h1 ok
  obtain ⟨tp0, tp1, tp2, tp3, tp4, tp5, tp6, tp7, tp8, tp9⟩ := hS.1
  obtain ⟨wa0, wa1, wa2⟩ := hS.2.2.2.2.2.2.1
  obtain ⟨pl0, pl1, pl2, pl3, pl4, pl5, pl6, pl7, pl8⟩ := hS.2.1
  obtain ⟨mo0, ⟨mr0, mr1, mr2, mr3, mr4, mr5, mr6, mr7, mr8, mr9, mr10, mr11⟩, mk0, mk1, mk2, mk3, mk4, mk5, mk6, mk7, mk8, mk9, mk10, mk11⟩ := hS.2.2.2.2.2.2.2.2.2.2
  have hP := ok.1
  have hR := ok.2.1
  have hP1 := hP.1
  have hP2 := hP.2.1
  have hP3 := hP.2.2.1
  have hP4 := hP.2.2.2.1
  have lf14 : lf 14 := by unfold lf; omega
  obtain ⟨li0, li1, li2, li3, li4, li5, li6, li7⟩ := hS.2.2.2.2.1 14 lf14
  by_cases hp : 0 ≤ p ∧ p < vnp (xP X)
  · by_cases hq : 0 ≤ q ∧ q < vnp (xP X)
    · by_cases hv : vlv (xR X) p
      · have g1 := hR.2.1 p hp.1 hp.2
        obtain ⟨a, ha⟩ := bs_ex (fun l => l < vnl (xP X) ∧ vcm (xP X) (xR X) p q (-1) ∧ ¬ vcm (xP X) (xR X) p q l)
        have ra := bs_rng ha
        refine ⟨a, X, ⟨by omega, by omega⟩, okX_B ok (by omega), fun M c => ?_, fun M c => ?_⟩
        · have e1 := k_isPerson hS hP c.1 i1
          have e2 := k_isPerson hS hP c.1 i2
          have e3 := k_lives hS lf14 c.2.1 p
          have e4 := c.2.1.2.1 p hp.1 hp.2
          rw [bo_t hp] at e1
          rw [bo_t hq] at e2
          rw [bo_t hv] at e3
          by_cases hg : vgt (xR X) p = q
          · have a0 : a = 0 := bs_ext ha (bs_c bs_0 (fun l _ _ => ⟨fun z => z.elim, fun z => absurd (show vcm (xP X) (xR X) p q l from vN_mo (m := 0) (n := 7) (by omega) hg.symm) z.2.2⟩))
            refine ⟨M, ?_, c, fr_rf⟩
            rw [a0]
            simp (disch := omega) only [c_Pe_cuts, b_Pe_cuts_0, b_Pe_cuts_5, b_Pe_cuts_8, b_Pe_cuts_13, b_Pe_cuts_19, b_Pe_cuts_27, b_Pe_cuts_33, b_Pe_cuts_56, tp0, tp1, tp2, tp3, tp4, tp5, tp6, tp7, tp8, tp9, wa0, wa1, wa2, li0, li1, li2, li3, li4, li5, li6, li7, e1, e2, e3, e4, am_ck_T, am_ck_t, am_cif_t, am_cif_f, am_cif_T, am_cif_F, am_then_s, am_push_s, am_push_n, true_and, and_true, true_or, or_true, Int.cast_ofNat_Int, am_02, am_22, not_true_eq_false, not_false_eq_true]
          · obtain ⟨M1, d1, d2, d3⟩ := k_comes (w := -1) hS ok c hp.1 hp.2 hq.1 hq.2 ⟨by omega, by omega⟩
            by_cases hc : vcm (xP X) (xR X) p q (-1)
            · rw [bo_t hc] at d1
              have loop : ∀ (n : Nat) (l s : Int) (M : am_M), 0 ≤ l → l + n = vnl (xP X) → CX X M → bs s (fun i => i < l ∧ ¬ vcm (xP X) (xR X) p q i) → ∃ M1, am_R 80 63 [some (am_r 1), some (am_i p), some (am_i q), some (am_i s), some (am_i l)] [] S M = some (some (am_i a), S, M1) ∧ CX X M1 ∧ fr 145 145 M M1 := by
                intro n
                induction n with
                | zero =>
                  intro l s M l1 l2 c hs
                  obtain rfl : l = vnl (xP X) := by omega
                  have n2 := c.1.2.1
                  have e : s = a := bs_ext (bs_c hs (fun i _ _ => ⟨fun z => ⟨z.1, hc, z.2⟩, fun z => ⟨z.1, z.2.2⟩⟩)) ha
                  refine ⟨M, ?_, c, fr_rf⟩
                  rw [b_Pe_cuts_63, e]
                  simp (disch := omega) only [b_Pe_cuts_99, tp0, tp1, tp2, tp3, tp4, tp5, tp6, tp7, tp8, tp9, pl0, pl1, pl2, pl3, pl4, pl5, pl6, pl7, pl8, n2, am_ck_T, am_ck_t, am_cif_t, am_cif_f, am_cif_T, am_cif_F, am_then_s, am_push_s, am_push_n, true_and, and_true, true_or, or_true, Int.cast_ofNat_Int, am_02, am_22, not_true_eq_false, not_false_eq_true]
                | succ n ih =>
                  intro l s M l1 l2 c hs
                  have n2 := c.1.2.1
                  obtain ⟨M1, d1, d2, d3⟩ := k_comes (w := l) hS ok c hp.1 hp.2 hq.1 hq.2 ⟨by omega, by omega⟩
                  by_cases hl : vcm (xP X) (xR X) p q l
                  · rw [bo_t hl] at d1
                    obtain ⟨M2, f1, f2, f3⟩ := ih (l + 1) s M1 (by omega) (by omega) d2 (bs_c hs (fun i _ _ => ⟨fun z => ⟨by have := z.1; omega, z.2⟩, fun z => ⟨by
                      have z1 := z.1
                      by_cases e : i = l
                      · rw [e] at z; exact absurd hl z.2
                      · omega, z.2⟩⟩))
                    refine ⟨M2, ?_, f2, fr_tr d3 f3⟩
                    rw [b_Pe_cuts_63]
                    simp (disch := omega) only [b_Pe_cuts_75, b_Pe_cuts_83, b_Pe_cuts_93, tp0, tp1, tp2, tp3, tp4, tp5, tp6, tp7, tp8, tp9, pl0, pl1, pl2, pl3, pl4, pl5, pl6, pl7, pl8, n2, d1, f1, am_ck_T, am_ck_t, am_cif_t, am_cif_f, am_cif_T, am_cif_F, am_then_s, am_push_s, am_push_n, true_and, and_true, true_or, or_true, Int.cast_ofNat_Int, am_02, am_22, not_true_eq_false, not_false_eq_true]
                  · rw [bo_f hl] at d1
                    obtain ⟨M2, f1, f2, f3⟩ := ih (l + 1) (am_or s (am_shl 1 l)) M1 (by omega) (by omega) d2 (bs_c (bs_or hs (bs_one l1 (by omega))) (fun i _ _ => by
                      constructor
                      · rintro (z | z)
                        · exact ⟨by have := z.1; omega, z.2⟩
                        · have z' : i = l := z
                          rw [z']; exact ⟨by omega, hl⟩
                      · rintro ⟨z1, z2⟩
                        by_cases e : i = l
                        · exact Or.inr e
                        · exact Or.inl ⟨by omega, z2⟩))
                    refine ⟨M2, ?_, f2, fr_tr d3 f3⟩
                    rw [b_Pe_cuts_63]
                    simp (disch := omega) only [b_Pe_cuts_75, b_Pe_cuts_83, b_Pe_cuts_86, b_Pe_cuts_93, tp0, tp1, tp2, tp3, tp4, tp5, tp6, tp7, tp8, tp9, pl0, pl1, pl2, pl3, pl4, pl5, pl6, pl7, pl8, n2, d1, f1, am_ck_T, am_ck_t, am_cif_t, am_cif_f, am_cif_T, am_cif_F, am_then_s, am_push_s, am_push_n, true_and, and_true, true_or, or_true, Int.cast_ofNat_Int, am_02, am_22, not_true_eq_false, not_false_eq_true]
              obtain ⟨M2, f1, f2, f3⟩ := loop (vnl (xP X)).toNat 0 0 M1 (by omega) (by omega) d2 (bs_c bs_0 (fun i _ _ => ⟨fun z => z.elim, fun z => by have := z.1; omega⟩))
              refine ⟨M2, ?_, f2, fr_mono (fr_tr d3 f3) (by omega) (by omega)⟩
              simp (disch := omega) only [c_Pe_cuts, b_Pe_cuts_0, b_Pe_cuts_5, b_Pe_cuts_8, b_Pe_cuts_13, b_Pe_cuts_19, b_Pe_cuts_27, b_Pe_cuts_33, b_Pe_cuts_46, b_Pe_cuts_53, b_Pe_cuts_58, tp0, tp1, tp2, tp3, tp4, tp5, tp6, tp7, tp8, tp9, wa0, wa1, wa2, li0, li1, li2, li3, li4, li5, li6, li7, e1, e2, e3, e4, d1, f1, am_ck_T, am_ck_t, am_cif_t, am_cif_f, am_cif_T, am_cif_F, am_then_s, am_push_s, am_push_n, true_and, and_true, true_or, or_true, Int.cast_ofNat_Int, am_02, am_22, not_true_eq_false, not_false_eq_true]
            · rw [bo_f hc] at d1
              have a0 : a = 0 := bs_ext ha (bs_c bs_0 (fun l _ _ => ⟨fun z => z.elim, fun z => absurd z.2.1 hc⟩))
              refine ⟨M1, ?_, d2, fr_mono d3 (by omega) (by omega)⟩
              rw [a0]
              simp (disch := omega) only [c_Pe_cuts, b_Pe_cuts_0, b_Pe_cuts_5, b_Pe_cuts_8, b_Pe_cuts_13, b_Pe_cuts_19, b_Pe_cuts_27, b_Pe_cuts_33, b_Pe_cuts_46, b_Pe_cuts_53, b_Pe_cuts_56, tp0, tp1, tp2, tp3, tp4, tp5, tp6, tp7, tp8, tp9, wa0, wa1, wa2, li0, li1, li2, li3, li4, li5, li6, li7, e1, e2, e3, e4, d1, am_ck_T, am_ck_t, am_cif_t, am_cif_f, am_cif_T, am_cif_F, am_then_s, am_push_s, am_push_n, true_and, and_true, true_or, or_true, Int.cast_ofNat_Int, am_02, am_22, not_true_eq_false, not_false_eq_true]
        · have e1 := m_isPerson hS hP c.1 i1
          have e2 := m_isPerson hS hP c.1 i2
          have e3 := m_isDead hS c.2.1 (by omega) p
          rw [bo_t hp] at e1
          rw [bo_t hq] at e2
          rw [bo_f (not_not_intro hv)] at e3
          have e5 : M 165 (64 + p) = vgt (xR X) p := by have := c.2.1.2.1 p hp.1 hp.2; rw [Int.zero_add] at this; exact this
          have al := m_allLines hS c.1
          obtain ⟨M1, d1, d2, d3⟩ := m_layWays (w := -1) hS hP hR c.1 c.2.1 (by omega) hp.1 hp.2 g1.2.1 g1.2.2 (al_w hP)
          have c1 := MX_172 hP c d3
          obtain ⟨f, f1, f2, f3⟩ := vE_di (p := p) (w := -1) hP hR (Q := fun k => k = vgt (xR X) p) (Q1_rng g1.2) q
          have e6 := vcm_di hP hR hp.1 hp.2 f1
          have d4 := d2 q hq.1 (by omega) f f1
          by_cases hc : vcm (xP X) (xR X) p q (-1)
          · have d5 := d4.2 (e6.mpr hc)
            have hf := e6.mpr hc
            have loop : ∀ (n : Nat) (l s : Int) (M : am_M), 0 ≤ l → l + n = vnl (xP X) → MX X M → bs s (fun i => i < l ∧ ¬ vcm (xP X) (xR X) p q i) → ∃ M1, am_R 157 73 [some (am_r 164), some (am_i p), some (am_i q), some (am_i 1), some (am_i s), some (am_i l)] [] S M = some (some (am_i a), S, M1) ∧ MX X M1 ∧ fr 172 172 M M1 := by
              intro n
              induction n with
              | zero =>
                intro l s M l1 l2 c hs
                obtain rfl : l = vnl (xP X) := by omega
                have n2 := c.1.2.1
                have e : s = a := bs_ext (bs_c hs (fun i _ _ => ⟨fun z => ⟨z.1, hc, z.2⟩, fun z => ⟨z.1, z.2.2⟩⟩)) ha
                refine ⟨M, ?_, c, fr_rf⟩
                rw [b_Mo_cuts_73, e]
                simp (disch := omega) only [b_Mo_cuts_145, mo0, mr0, mr1, mr2, mr3, mr4, mr5, mr6, mr7, mr8, mr9, mr10, mr11, mk0, mk1, mk2, mk3, mk4, mk5, mk6, mk7, mk8, mk9, mk10, mk11, n2, am_ck_T, am_ck_t, am_cif_t, am_cif_f, am_cif_T, am_cif_F, am_then_s, am_push_s, am_push_n, true_and, and_true, true_or, or_true, Int.cast_ofNat_Int, am_02, am_22, not_true_eq_false, not_false_eq_true]
              | succ n ih =>
                intro l s M l1 l2 c hs
                have n2 := c.1.2.1
                have al := m_allLines hS c.1
                have e5 : M 165 (64 + p) = vgt (xR X) p := by have := c.2.1.2.1 p hp.1 hp.2; rw [Int.zero_add] at this; exact this
                obtain ⟨M1, d1, d2, d3⟩ := m_layWays (w := l) hS hP hR c.1 c.2.1 (by omega) hp.1 hp.2 g1.2.1 g1.2.2 (al_x hP l1 (show l < vnl (xP X) by omega))
                have c1 := MX_172 hP c d3
                obtain ⟨f, f1, f2, f3⟩ := vE_di (p := p) (w := l) hP hR (Q := fun k => k = vgt (xR X) p) (Q1_rng g1.2) q
                have e6 := vcm_di hP hR hp.1 hp.2 f1
                have d4 := d2 q hq.1 (by omega) f f1
                have o1 := m_one (S := S) (M := M1) (v := 1) (Or.inr rfl)
                have o0 := m_one (S := S) (M := M1) (v := 0) (Or.inl rfl)
                by_cases hl : vcm (xP X) (xR X) p q l
                · have d5 := d4.2 (e6.mpr hl)
                  have e0 := bs_or0 hs l1 (show l < 8 by omega)
                  obtain ⟨M2, u1, u2, u3⟩ := ih (l + 1) s M1 (by omega) (by omega) c1 (bs_c hs (fun i _ _ => ⟨fun z => ⟨by have := z.1; omega, z.2⟩, fun z => ⟨by
                    have z1 := z.1
                    by_cases e : i = l
                    · rw [e] at z; exact absurd hl z.2
                    · omega, z.2⟩⟩))
                  refine ⟨M2, ?_, u2, fr_tr d3 u3⟩
                  rw [b_Mo_cuts_73]
                  simp (disch := omega) only [b_Mo_cuts_82, b_Mo_cuts_86, b_Mo_cuts_102, b_Mo_cuts_112, b_Mo_cuts_129, b_Mo_cuts_130, b_Mo_cuts_133, mo0, mr0, mr1, mr2, mr3, mr4, mr5, mr6, mr7, mr8, mr9, mr10, mr11, mk0, mk1, mk2, mk3, mk4, mk5, mk6, mk7, mk8, mk9, mk10, mk11, n2, al, e5, d1, d5, o0, e0, u1, am_ck_T, am_ck_t, am_cif_t, am_cif_f, am_cif_T, am_cif_F, am_then_s, am_push_s, am_push_n, true_and, and_true, true_or, or_true, Int.cast_ofNat_Int, am_02, am_22, not_true_eq_false, not_false_eq_true]
                · have d5 := d4.1 (Classical.byContradiction (fun z => hl (e6.mp z)))
                  obtain ⟨M2, u1, u2, u3⟩ := ih (l + 1) (am_or s (am_shl 1 l)) M1 (by omega) (by omega) c1 (bs_c (bs_or hs (bs_one l1 (by omega))) (fun i _ _ => by
                    constructor
                    · rintro (z | z)
                      · exact ⟨by have := z.1; omega, z.2⟩
                      · have z' : i = l := z
                        rw [z']; exact ⟨by omega, hl⟩
                    · rintro ⟨z1, z2⟩
                      by_cases e : i = l
                      · exact Or.inr e
                      · exact Or.inl ⟨by omega, z2⟩))
                  refine ⟨M2, ?_, u2, fr_tr d3 u3⟩
                  rw [b_Mo_cuts_73]
                  simp (disch := omega) only [b_Mo_cuts_82, b_Mo_cuts_86, b_Mo_cuts_102, b_Mo_cuts_112, b_Mo_cuts_125, b_Mo_cuts_130, b_Mo_cuts_133, mo0, mr0, mr1, mr2, mr3, mr4, mr5, mr6, mr7, mr8, mr9, mr10, mr11, mk0, mk1, mk2, mk3, mk4, mk5, mk6, mk7, mk8, mk9, mk10, mk11, n2, al, e5, d1, d5, o1, u1, am_ck_T, am_ck_t, am_cif_t, am_cif_f, am_cif_T, am_cif_F, am_then_s, am_push_s, am_push_n, true_and, and_true, true_or, or_true, Int.cast_ofNat_Int, am_02, am_22, not_true_eq_false, not_false_eq_true]
            obtain ⟨M2, u1, u2, u3⟩ := loop (vnl (xP X)).toNat 0 0 M1 (by omega) (by omega) c1 (bs_c bs_0 (fun i _ _ => ⟨fun z => z.elim, fun z => by have := z.1; omega⟩))
            refine ⟨M2, ?_, u2, fr_mono (fr_tr d3 u3) (by omega) (by omega)⟩
            simp (disch := omega) only [c_Mo_cuts, b_Mo_cuts_0, b_Mo_cuts_5, b_Mo_cuts_8, b_Mo_cuts_13, b_Mo_cuts_19, b_Mo_cuts_25, b_Mo_cuts_31, b_Mo_cuts_47, b_Mo_cuts_50, b_Mo_cuts_61, b_Mo_cuts_66, mo0, mr0, mr1, mr2, mr3, mr4, mr5, mr6, mr7, mr8, mr9, mr10, mr11, mk0, mk1, mk2, mk3, mk4, mk5, mk6, mk7, mk8, mk9, mk10, mk11, e1, e2, e3, e5, al, d1, d5, u1, am_ck_T, am_ck_t, am_cif_t, am_cif_f, am_cif_T, am_cif_F, am_then_s, am_push_s, am_push_n, true_and, and_true, true_or, or_true, Int.cast_ofNat_Int, am_02, am_22, not_true_eq_false, not_false_eq_true]
          · have d5 := d4.1 (Classical.byContradiction (fun z => hc (e6.mp z)))
            have a0 : a = 0 := bs_ext ha (bs_c bs_0 (fun l _ _ => ⟨fun z => z.elim, fun z => absurd z.2.1 hc⟩))
            have n2 := c1.1.2.1
            refine ⟨M1, ?_, c1, fr_mono d3 (by omega) (by omega)⟩
            rw [a0]
            by_cases hn : vnl (xP X) = 0
            · simp (disch := omega) only [c_Mo_cuts, b_Mo_cuts_0, b_Mo_cuts_5, b_Mo_cuts_8, b_Mo_cuts_13, b_Mo_cuts_19, b_Mo_cuts_25, b_Mo_cuts_31, b_Mo_cuts_47, b_Mo_cuts_50, b_Mo_cuts_65, b_Mo_cuts_66, b_Mo_cuts_73, b_Mo_cuts_145, mo0, mr0, mr1, mr2, mr3, mr4, mr5, mr6, mr7, mr8, mr9, mr10, mr11, mk0, mk1, mk2, mk3, mk4, mk5, mk6, mk7, mk8, mk9, mk10, mk11, e1, e2, e3, e5, al, d1, d5, n2, am_ck_T, am_ck_t, am_cif_t, am_cif_f, am_cif_T, am_cif_F, am_then_s, am_push_s, am_push_n, true_and, and_true, true_or, or_true, Int.cast_ofNat_Int, am_02, am_22, not_true_eq_false, not_false_eq_true]
            · simp (disch := omega) only [c_Mo_cuts, b_Mo_cuts_0, b_Mo_cuts_5, b_Mo_cuts_8, b_Mo_cuts_13, b_Mo_cuts_19, b_Mo_cuts_25, b_Mo_cuts_31, b_Mo_cuts_47, b_Mo_cuts_50, b_Mo_cuts_65, b_Mo_cuts_66, b_Mo_cuts_73, b_Mo_cuts_82, b_Mo_cuts_145, mo0, mr0, mr1, mr2, mr3, mr4, mr5, mr6, mr7, mr8, mr9, mr10, mr11, mk0, mk1, mk2, mk3, mk4, mk5, mk6, mk7, mk8, mk9, mk10, mk11, e1, e2, e3, e5, al, d1, d5, n2, am_ck_T, am_ck_t, am_cif_t, am_cif_f, am_cif_T, am_cif_F, am_then_s, am_push_s, am_push_n, true_and, and_true, true_or, or_true, Int.cast_ofNat_Int, am_02, am_22, not_true_eq_false, not_false_eq_true]
      · refine ⟨-1000000003, X, ⟨by omega, by omega⟩, okX_B ok (by omega), CC_id (fun M c => ?_), MM_id (fun M c => ?_)⟩
        · have e1 := k_isPerson hS hP c.1 i1
          have e2 := k_isPerson hS hP c.1 i2
          have e3 := k_lives hS lf14 c.2.1 p
          rw [bo_t hp] at e1
          rw [bo_t hq] at e2
          rw [bo_f hv] at e3
          simp (disch := omega) only [c_Pe_cuts, b_Pe_cuts_0, b_Pe_cuts_5, b_Pe_cuts_8, b_Pe_cuts_13, b_Pe_cuts_19, b_Pe_cuts_27, b_Pe_cuts_30, tp0, tp1, tp2, tp3, tp4, tp5, tp6, tp7, tp8, tp9, wa0, wa1, wa2, li0, li1, li2, li3, li4, li5, li6, li7, e1, e2, e3, am_ck_T, am_ck_t, am_cif_t, am_cif_f, am_cif_T, am_cif_F, am_then_s, am_push_s, am_push_n, true_and, and_true, true_or, or_true, Int.cast_ofNat_Int, am_02, am_22, not_true_eq_false, not_false_eq_true]
        · have e1 := m_isPerson hS hP c.1 i1
          have e2 := m_isPerson hS hP c.1 i2
          have e3 := m_isDead hS c.2.1 (by omega) p
          rw [bo_t hp] at e1
          rw [bo_t hq] at e2
          rw [bo_t hv] at e3
          simp (disch := omega) only [c_Mo_cuts, b_Mo_cuts_0, b_Mo_cuts_5, b_Mo_cuts_8, b_Mo_cuts_13, b_Mo_cuts_19, b_Mo_cuts_25, b_Mo_cuts_28, mo0, mr0, mr1, mr2, mr3, mr4, mr5, mr6, mr7, mr8, mr9, mr10, mr11, mk0, mk1, mk2, mk3, mk4, mk5, mk6, mk7, mk8, mk9, mk10, mk11, e1, e2, e3, am_ck_T, am_ck_t, am_cif_t, am_cif_f, am_cif_T, am_cif_F, am_then_s, am_push_s, am_push_n, true_and, and_true, true_or, or_true, Int.cast_ofNat_Int, am_02, am_22, not_true_eq_false, not_false_eq_true]
    · refine ⟨-1000000001, X, ⟨by omega, by omega⟩, okX_B ok (by omega), CC_id (fun M c => ?_), MM_id (fun M c => ?_)⟩
      · have e1 := k_isPerson hS hP c.1 i1
        have e2 := k_isPerson hS hP c.1 i2
        rw [bo_t hp] at e1
        rw [bo_f hq] at e2
        simp (disch := omega) only [c_Pe_cuts, b_Pe_cuts_0, b_Pe_cuts_5, b_Pe_cuts_8, b_Pe_cuts_13, b_Pe_cuts_16, tp0, tp1, tp2, tp3, tp4, tp5, tp6, tp7, tp8, tp9, wa0, wa1, wa2, li0, li1, li2, li3, li4, li5, li6, li7, e1, e2, am_ck_T, am_ck_t, am_cif_t, am_cif_f, am_cif_T, am_cif_F, am_then_s, am_push_s, am_push_n, true_and, and_true, true_or, or_true, Int.cast_ofNat_Int, am_02, am_22, not_true_eq_false, not_false_eq_true]
      · have e1 := m_isPerson hS hP c.1 i1
        have e2 := m_isPerson hS hP c.1 i2
        rw [bo_t hp] at e1
        rw [bo_f hq] at e2
        simp (disch := omega) only [c_Mo_cuts, b_Mo_cuts_0, b_Mo_cuts_5, b_Mo_cuts_8, b_Mo_cuts_13, b_Mo_cuts_16, mo0, mr0, mr1, mr2, mr3, mr4, mr5, mr6, mr7, mr8, mr9, mr10, mr11, mk0, mk1, mk2, mk3, mk4, mk5, mk6, mk7, mk8, mk9, mk10, mk11, e1, e2, am_ck_T, am_ck_t, am_cif_t, am_cif_f, am_cif_T, am_cif_F, am_then_s, am_push_s, am_push_n, true_and, and_true, true_or, or_true, Int.cast_ofNat_Int, am_02, am_22, not_true_eq_false, not_false_eq_true]
  · refine ⟨-1000000001, X, ⟨by omega, by omega⟩, okX_B ok (by omega), CC_id (fun M c => ?_), MM_id (fun M c => ?_)⟩
    · have e1 := k_isPerson hS hP c.1 i1
      rw [bo_f hp] at e1
      simp (disch := omega) only [c_Pe_cuts, b_Pe_cuts_0, b_Pe_cuts_5, b_Pe_cuts_16, tp0, tp1, tp2, tp3, tp4, tp5, tp6, tp7, tp8, tp9, wa0, wa1, wa2, li0, li1, li2, li3, li4, li5, li6, li7, e1, am_ck_T, am_ck_t, am_cif_t, am_cif_f, am_cif_T, am_cif_F, am_then_s, am_push_s, am_push_n, true_and, and_true, true_or, or_true, Int.cast_ofNat_Int, am_02, am_22, not_true_eq_false, not_false_eq_true]
    · have e1 := m_isPerson hS hP c.1 i1
      rw [bo_f hp] at e1
      simp (disch := omega) only [c_Mo_cuts, b_Mo_cuts_0, b_Mo_cuts_5, b_Mo_cuts_16, mo0, mr0, mr1, mr2, mr3, mr4, mr5, mr6, mr7, mr8, mr9, mr10, mr11, mk0, mk1, mk2, mk3, mk4, mk5, mk6, mk7, mk8, mk9, mk10, mk11, e1, am_ck_T, am_ck_t, am_cif_t, am_cif_f, am_cif_T, am_cif_F, am_then_s, am_push_s, am_push_n, true_and, and_true, true_or, or_true, Int.cast_ofNat_Int, am_02, am_22, not_true_eq_false, not_false_eq_true]
end CUTS
