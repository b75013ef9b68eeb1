/-! the class reads the text: lines, the whole -/
def cO2 (T : Int → Int) (L : Int) (r : vO vD) (M : am_M) : Prop := match r with
  | Sum.inl f => cF T L f.1 f.2 M
  | Sum.inr D => (∃ i, cG T L i M) ∧ cD D M
section READ3
variable {S : am_S} {M M1 : am_M} {T : Int → Int} {L i : Int} {D : vD}
theorem k_line (hS : ly S) (hT : hTL T L) (hD : okD D) (g : cG T L i M) (cd : cD D M) (hi : i < L) (hc : T i = 108) : ∃ M1, am_call 37 [am_r 7] S M = some (none, S, M1) ∧ fr 7 12 M M1 ∧ cO T L (sm T L (sl0 T L i D)) M1 := by
  obtain ⟨re0, re1, re2, re3⟩ := hS.2.2.2.1
  obtain ⟨dr0, dr1, dr2, dr3, dr4, dr5, dr6, dr7, dr8⟩ := hS.2.2.1
  have hP := hD.1
  have hP1 := hP.1
  have hP2 := hP.2.1
  have hP3 := hP.2.2.1
  have hP4 := hP.2.2.2.1
  have n1 := cd.1
  have n2 := cd.2.1
  have r2 := g.1.2.1
  by_cases h6 : 6 ≤ vnl D.1
  · have e2 := k_mark (M := M) hS 3 i
    have es : sl0 T L i D = Sum.inl (3, i) := by unfold sl0; rw [if_pos h6]
    refine ⟨am_wr (am_wr M 7 4 3) 7 3 i, ?_, fr_tr (fr_wr (by omega)) (fr_wr (by omega)), ?_⟩
    · simp (disch := omega) only [c_Re_readLine, b_Re_readLine_0, b_Re_readLine_14, b_Re_readLine_23, re0, re1, re2, re3, dr0, dr1, dr2, dr3, dr4, dr5, dr6, dr7, dr8, n2, r2, e2, am_ck_T, am_ck_t, am_cif_t, am_cif_f, am_cif_T, am_cif_F, am_then_s, am_push_s, am_push_n, true_and, and_true, true_or, or_true, Int.cast_ofNat_Int, am_02, am_22, not_true_eq_false, not_false_eq_true]
    · rw [es]; exact cF_mark g.1
  · obtain ⟨Ma, a1, a2, a3, a4⟩ := k_take hS hT g (show am_Ri 108 from ⟨by omega, by omega⟩)
    rw [bo_t ⟨hi, hc⟩] at a1
    have g1 := a3 ⟨hi, hc⟩
    obtain ⟨Mc, v, v1, v2, v3, v4⟩ := k_number hS hT g1 (show am_Ri 3 from ⟨by omega, by omega⟩)
    by_cases h0 : tn T L (tb T L (i + 1)) 3 = 0
    · obtain ⟨e1, e2, e3⟩ := v3 h0
      have t0 := tn_0 h0
      have rv := tw_rng g1.1.2.2.2.2 t0.2.1
      have es : sl0 T L i D = sl2 D (tw T L (tb T L (i + 1))) (ss T L (vnp D.1 - 1) 6 0 (tb T L (te T L (tb T L (i + 1)))) (fun _ => 0)) := by unfold sl0; rw [if_neg h6, if_neg (fun z => z h0)]
      have m1 : Mc 8 0 = vnp D.1 := (v2 8 (by omega) 0).trans ((a2 8 (by omega) 0).trans n1)
      have fac : f12 (vnl D.1) M Mc := f12_tr (f12_7 a2) (f12_7 v2)
      rcases k_stops hS hT hP3 (show vnl D.1 < 6 by omega) hP1 hP2 6 0 (tb T L (te T L (tb T L (i + 1)))) (fun _ => 0) Mc none (by omega) (by omega) e2 m1 (fun a b1 b2 => by omega) with ⟨f, M2, u1, u2, u3, u4⟩ | ⟨t, M2, u1, u2, u3, u4, u5⟩
      · have u2' : am_call 38 [am_r 7, am_i (vnl D.1)] S Mc = some (some (am_i (-1)), S, M2) := by rw [c_Re_readStops, b_Re_readStops_0]; exact u2
        refine ⟨M2, ?_, f12_fr (f12_tr fac u4), ?_⟩
        · simp (disch := omega) only [c_Re_readLine, b_Re_readLine_0, b_Re_readLine_24, b_Re_readLine_30, b_Re_readLine_36, b_Re_readLine_43, b_Re_readLine_48, b_Re_readLine_96, re0, re1, re2, re3, dr0, dr1, dr2, dr3, dr4, dr5, dr6, dr7, dr8, n2, a1, v1, u2', am_ck_T, am_ck_t, am_cif_t, am_cif_f, am_cif_T, am_cif_F, am_then_s, am_push_s, am_push_n, true_and, and_true, true_or, or_true, Int.cast_ofNat_Int, am_02, am_22, not_true_eq_false, not_false_eq_true]
        · rw [es, u1]; exact u3
      · have u2' : am_call 38 [am_r 7, am_i (vnl D.1)] S Mc = some (some (am_i t.1), S, M2) := by rw [c_Re_readStops, b_Re_readStops_0]; exact u2
        have ok := ss_ok (T := T) (L := L) (m := vnp D.1 - 1) 6 0 (tb T L (te T L (tb T L (i + 1)))) (fun _ => 0) (by omega) (by omega) e2.1.2.2.2.1 e2.1.2.2.2.2 (fun a a1 a2 => by omega) (fun a c a1 a2 a3 => by omega)
        rw [u1] at ok
        have okt := ok.1
        obtain ⟨Mb, b1, b2, b3, b4⟩ := k_take hS hT u3 (show am_Ri 59 from ⟨by omega, by omega⟩)
        have fa : f12 (vnl D.1) M Mb := f12_tr fac (f12_tr u5 (f12_7 b2))
        rw [es, u1]
        by_cases hs : t.2.1 < L ∧ T t.2.1 = 59
        · rw [bo_t hs] at b1
          have n3 : am_wr (am_wr Mb 10 (vnl D.1) (tw T L (tb T L (i + 1)))) 11 (vnl D.1) t.1 8 1 = vnl D.1 := ((am_wr_k (by omega)).trans (am_wr_k (by omega))).trans ((fa.1 8 (by omega) (by omega) 1).trans n2)
          refine ⟨am_wr (am_wr (am_wr Mb 10 (vnl D.1) (tw T L (tb T L (i + 1)))) 11 (vnl D.1) t.1) 8 1 (vnl D.1 + 1), ?_, ?_, ?_⟩
          · rw [e1] at v1
            simp (disch := omega) only [c_Re_readLine, b_Re_readLine_0, b_Re_readLine_24, b_Re_readLine_30, b_Re_readLine_36, b_Re_readLine_43, b_Re_readLine_48, b_Re_readLine_54, b_Re_readLine_60, b_Re_readLine_63, b_Re_readLine_96, re0, re1, re2, re3, dr0, dr1, dr2, dr3, dr4, dr5, dr6, dr7, dr8, n2, a1, v1, u2', b1, n3, am_ck_T, am_ck_t, am_cif_t, am_cif_f, am_cif_T, am_cif_F, am_then_s, am_push_s, am_push_n, true_and, and_true, true_or, or_true, Int.cast_ofNat_Int, am_02, am_22, not_true_eq_false, not_false_eq_true]
          · exact fr_tr (f12_fr fa) (fr_tr (fr_wr (by omega)) (fr_tr (fr_wr (by omega)) (fr_wr (by omega))))
          · have ez : sm T L (sl2 D (tw T L (tb T L (i + 1))) (Sum.inr t)) = Sum.inr (tb T L (t.2.1 + 1), (((vnp D.1, vnl D.1 + 1), (fun l => if l = vnl D.1 then t.1 else vsz D.1 l), (fun l => if l = vnl D.1 then tw T L (tb T L (i + 1)) else vfr D.1 l), (fun l k => if l = vnl D.1 then t.2.2 k else vst D.1 l k)), D.2)) := if_pos hs
            rw [ez]
            refine ⟨cG_k (cG_k (cG_k (b3 hs) (by omega) (by omega)) (by omega) (by omega)) (by omega) (by omega), ?_, am_wr_s, fun l l1 l2 => ⟨?_, ?_⟩, fun l k l1 l2 k1 k2 => ?_, fun a c c1 c2 c3 c4 => ?_⟩
            · exact (am_wr_i (by omega)).trans ((am_wr_k (by omega)).trans ((am_wr_k (by omega)).trans ((fa.1 8 (by omega) (by omega) 0).trans n1)))
            · have l2' : l < vnl D.1 + 1 := l2
              show _ = if l = vnl D.1 then t.1 else vsz D.1 l
              rw [am_wr_k (by omega)]
              by_cases e : l = vnl D.1
              · rw [if_pos e, e, am_wr_s]
              · rw [if_neg e, am_wr_i e, am_wr_k (by omega)]
                exact (fa.1 11 (by omega) (by omega) l).trans (cd.2.2.1 l l1 (by omega)).1
            · have l2' : l < vnl D.1 + 1 := l2
              show _ = if l = vnl D.1 then tw T L (tb T L (i + 1)) else vfr D.1 l
              rw [am_wr_k (by omega), am_wr_k (by omega)]
              by_cases e : l = vnl D.1
              · rw [if_pos e, e, am_wr_s]
              · rw [if_neg e, am_wr_i e]
                exact (fa.1 10 (by omega) (by omega) l).trans (cd.2.2.1 l l1 (by omega)).2
            · have l2' : l < vnl D.1 + 1 := l2
              have k2' : k < (if l = vnl D.1 then t.1 else vsz D.1 l) := k2
              show _ = if l = vnl D.1 then t.2.2 k else vst D.1 l k
              rw [am_wr_k (by omega), am_wr_k (by omega), am_wr_k (by omega)]
              by_cases e : l = vnl D.1
              · rw [if_pos e]
                rw [if_pos e] at k2'
                rw [e]
                exact (b2 12 (by omega) _).trans (u4 k k1 k2')
              · rw [if_neg e]
                rw [if_neg e] at k2'
                have s1 := hP.2.2.2.2.1 l l1 (by omega)
                exact (fa.2 _ (by omega)).trans (cd.2.2.2.1 l k l1 (by omega) k1 k2')
            · exact (am_wr_k (by omega)).trans ((am_wr_k (by omega)).trans ((am_wr_k (by omega)).trans ((fa.1 9 (by omega) (by omega) _).trans (cd.2.2.2.2 a c c1 c2 c3 c4))))
        · rw [bo_f hs] at b1
          refine ⟨Mb, ?_, f12_fr fa, ?_⟩
          · simp (disch := omega) only [c_Re_readLine, b_Re_readLine_0, b_Re_readLine_24, b_Re_readLine_30, b_Re_readLine_36, b_Re_readLine_43, b_Re_readLine_48, b_Re_readLine_54, b_Re_readLine_60, b_Re_readLine_96, re0, re1, re2, re3, dr0, dr1, dr2, dr3, dr4, dr5, dr6, dr7, dr8, n2, a1, v1, u2', b1, am_ck_T, am_ck_t, am_cif_t, am_cif_f, am_cif_T, am_cif_F, am_then_s, am_push_s, am_push_n, true_and, and_true, true_or, or_true, Int.cast_ofNat_Int, am_02, am_22, not_true_eq_false, not_false_eq_true]
          · have ez : sm T L (sl2 D (tw T L (tb T L (i + 1))) (Sum.inr t)) = Sum.inl (1, t.2.1) := if_neg hs
            rw [ez]; exact b4 hs
    · obtain ⟨e1, e2⟩ := v4 h0
      have es : sl0 T L i D = Sum.inl (tn T L (tb T L (i + 1)) 3, tb T L (i + 1)) := by unfold sl0; rw [if_neg h6, if_pos h0]
      rw [e1] at v1
      refine ⟨Mc, ?_, fr_mono (fr_tr a2 v2) (by omega) (by omega), ?_⟩
      · simp (disch := omega) only [c_Re_readLine, b_Re_readLine_0, b_Re_readLine_24, b_Re_readLine_30, b_Re_readLine_36, b_Re_readLine_42, re0, re1, re2, re3, dr0, dr1, dr2, dr3, dr4, dr5, dr6, dr7, dr8, n2, a1, v1, am_ck_T, am_ck_t, am_cif_t, am_cif_f, am_cif_T, am_cif_F, am_then_s, am_push_s, am_push_n, true_and, and_true, true_or, or_true, Int.cast_ofNat_Int, am_02, am_22, not_true_eq_false, not_false_eq_true]
      · rw [es]; exact e2
theorem k_clause (hS : ly S) (hT : hTL T L) (hD : okD D) (g : cG T L i M) (cd : cD D M) (hi : i < L) : ∃ M1, am_call 35 [am_r 7] S M = some (none, S, M1) ∧ fr 7 12 M M1 ∧ cO T L (sm T L (sk T L i D)) M1 := by
  obtain ⟨re0, re1, re2, re3⟩ := hS.2.2.2.1
  obtain ⟨dr0, dr1, dr2, dr3, dr4, dr5, dr6, dr7, dr8⟩ := hS.2.2.1
  have r2 := g.1.2.1
  have x1 := k_isNext hS hT g.1 (show am_Ri 112 from ⟨by omega, by omega⟩)
  have x2 := k_isNext hS hT g.1 (show am_Ri 108 from ⟨by omega, by omega⟩)
  unfold sk
  by_cases h1 : T i = 112
  · rw [if_pos h1]
    rw [bo_t ⟨hi, h1⟩] at x1
    obtain ⟨M1, d1, d2, d3⟩ := k_person hS hT hD g cd hi h1
    refine ⟨M1, ?_, d2, d3⟩
    simp (disch := omega) only [c_Re_readClause, b_Re_readClause_0, b_Re_readClause_6, b_Re_readClause_9, b_Re_readClause_13, b_Re_readClause_41, re0, re1, re2, re3, dr0, dr1, dr2, dr3, dr4, dr5, dr6, dr7, dr8, x1, d1, am_ck_T, am_ck_t, am_cif_t, am_cif_f, am_cif_T, am_cif_F, am_then_s, am_push_s, am_push_n, true_and, and_true, true_or, or_true, Int.cast_ofNat_Int, am_02, am_22, not_true_eq_false, not_false_eq_true]
  · rw [if_neg h1]
    rw [bo_f (fun z => h1 z.2)] at x1
    by_cases h2 : T i = 108
    · rw [if_pos h2]
      rw [bo_t ⟨hi, h2⟩] at x2
      obtain ⟨M1, d1, d2, d3⟩ := k_line hS hT hD g cd hi h2
      refine ⟨M1, ?_, d2, d3⟩
      simp (disch := omega) only [c_Re_readClause, b_Re_readClause_0, b_Re_readClause_6, b_Re_readClause_16, b_Re_readClause_22, b_Re_readClause_25, b_Re_readClause_29, b_Re_readClause_41, re0, re1, re2, re3, dr0, dr1, dr2, dr3, dr4, dr5, dr6, dr7, dr8, x1, x2, d1, am_ck_T, am_ck_t, am_cif_t, am_cif_f, am_cif_T, am_cif_F, am_then_s, am_push_s, am_push_n, true_and, and_true, true_or, or_true, Int.cast_ofNat_Int, am_02, am_22, not_true_eq_false, not_false_eq_true]
    · rw [if_neg h2]
      rw [bo_f (fun z => h2 z.2)] at x2
      have e2 := k_mark (M := M) hS 1 i
      refine ⟨am_wr (am_wr M 7 4 1) 7 3 i, ?_, fr_tr (fr_wr (by omega)) (fr_wr (by omega)), cF_mark g.1⟩
      simp (disch := omega) only [c_Re_readClause, b_Re_readClause_0, b_Re_readClause_6, b_Re_readClause_16, b_Re_readClause_22, b_Re_readClause_32, b_Re_readClause_41, re0, re1, re2, re3, dr0, dr1, dr2, dr3, dr4, dr5, dr6, dr7, dr8, x1, x2, r2, e2, am_ck_T, am_ck_t, am_cif_t, am_cif_f, am_cif_T, am_cif_F, am_then_s, am_push_s, am_push_n, true_and, and_true, true_or, or_true, Int.cast_ofNat_Int, am_02, am_22, not_true_eq_false, not_false_eq_true]
theorem k_clauses (hS : ly S) (hT : hTL T L) : ∀ (n : Nat) (c i : Int) (D : vD) (M : am_M), 0 ≤ c → c + n = 200 → okD D → cG T L i M → cD D M → ∃ M1 c1, am_R 34 37 [some (am_r 7), some (am_i c)] [] S M = am_R 34 72 [some (am_r 7), some (am_i c1)] [] S M1 ∧ fr 7 12 M M1 ∧ cO2 T L (sc T L n i D) M1 := by
  obtain ⟨re0, re1, re2, re3⟩ := hS.2.2.2.1
  obtain ⟨dr0, dr1, dr2, dr3, dr4, dr5, dr6, dr7, dr8⟩ := hS.2.2.1
  have t2 := hT.2
  intro n
  induction n with
  | zero =>
    intro c i D M c1 c2 hD g cd
    refine ⟨M, c, ?_, fr_rf, ⟨i, g⟩, cd⟩
    rw [b_Re_read_37]
    simp (disch := omega) only [am_ck_T, am_ck_t, am_cif_t, am_cif_f, am_cif_T, am_cif_F, am_then_s, am_push_s, am_push_n, true_and, and_true, true_or, or_true, Int.cast_ofNat_Int, am_02, am_22, not_true_eq_false, not_false_eq_true]
  | succ n ih =>
    intro c i D M c1 c2 hD g cd
    have uf : sc T L (n + 1) i D = if i < L then sc2 (sc T L n) (sm T L (sk T L i D)) else Sum.inr D := rfl
    obtain ⟨r1, r2, r3, r4, r5⟩ := g.1
    have k0 := g.2.1
    rw [uf]
    by_cases hi : i < L
    · rw [if_pos hi]
      obtain ⟨Ma, a1, a2, a3⟩ := k_clause hS hT hD g cd hi
      have ok := sm_ok (T := T) (sk_ok (T := T) hD r4 hi) r4
      generalize sm T L (sk T L i D) = r at a3 ok
      match r, a3, ok with
      | Sum.inl f, a3, ok =>
        obtain ⟨⟨j, j1, j2, j3, j4, j5⟩, f1, f2⟩ := a3
        have o1 := ok.1
        have o2 := ok.2.1
        have e : am_R 34 37 [some (am_r 7), some (am_i (c + 1))] [] S Ma = am_R 34 72 [some (am_r 7), some (am_i (c + 1))] [] S Ma := by
          rw [b_Re_read_37]
          by_cases h200 : 200 ≤ c + 1
          · simp (disch := omega) only [am_ck_T, am_ck_t, am_cif_t, am_cif_f, am_cif_T, am_cif_F, am_then_s, am_push_s, am_push_n, true_and, and_true, true_or, or_true, Int.cast_ofNat_Int, am_02, am_22, not_true_eq_false, not_false_eq_true]
          · by_cases hj : L ≤ j
            · simp (disch := omega) only [b_Re_read_44, re0, re1, re2, re3, dr0, dr1, dr2, dr3, dr4, dr5, dr6, dr7, dr8, j1, j2, am_ck_T, am_ck_t, am_cif_t, am_cif_f, am_cif_T, am_cif_F, am_then_s, am_push_s, am_push_n, true_and, and_true, true_or, or_true, Int.cast_ofNat_Int, am_02, am_22, not_true_eq_false, not_false_eq_true]
            · simp (disch := omega) only [b_Re_read_44, b_Re_read_55, re0, re1, re2, re3, dr0, dr1, dr2, dr3, dr4, dr5, dr6, dr7, dr8, j1, j2, f1, am_ck_T, am_ck_t, am_cif_t, am_cif_f, am_cif_T, am_cif_F, am_then_s, am_push_s, am_push_n, true_and, and_true, true_or, or_true, Int.cast_ofNat_Int, am_02, am_22, not_true_eq_false, not_false_eq_true]
        refine ⟨Ma, c + 1, ?_, a2, ⟨j, j1, j2, j3, j4, j5⟩, f1, f2⟩
        rw [b_Re_read_37]
        simp (disch := omega) only [b_Re_read_44, b_Re_read_55, b_Re_read_62, b_Re_read_66, re0, re1, re2, re3, dr0, dr1, dr2, dr3, dr4, dr5, dr6, dr7, dr8, r1, r2, k0, a1, e, am_ck_T, am_ck_t, am_cif_t, am_cif_f, am_cif_T, am_cif_F, am_then_s, am_push_s, am_push_n, true_and, and_true, true_or, or_true, Int.cast_ofNat_Int, am_02, am_22, not_true_eq_false, not_false_eq_true]
      | Sum.inr z, a3, ok =>
        obtain ⟨M1, c3, d1, d2, d3⟩ := ih (c + 1) z.1 z.2 Ma (by omega) (by omega) ok.2.2 a3.1 a3.2
        refine ⟨M1, c3, ?_, fr_tr a2 d2, d3⟩
        rw [b_Re_read_37]
        simp (disch := omega) only [b_Re_read_44, b_Re_read_55, b_Re_read_62, b_Re_read_66, re0, re1, re2, re3, dr0, dr1, dr2, dr3, dr4, dr5, dr6, dr7, dr8, r1, r2, k0, a1, d1, am_ck_T, am_ck_t, am_cif_t, am_cif_f, am_cif_T, am_cif_F, am_then_s, am_push_s, am_push_n, true_and, and_true, true_or, or_true, Int.cast_ofNat_Int, am_02, am_22, not_true_eq_false, not_false_eq_true]
    · rw [if_neg hi]
      refine ⟨M, c, ?_, fr_rf, ⟨i, g⟩, cd⟩
      rw [b_Re_read_37]
      simp (disch := omega) only [b_Re_read_44, re0, re1, re2, re3, dr0, dr1, dr2, dr3, dr4, dr5, dr6, dr7, dr8, r1, r2, am_ck_T, am_ck_t, am_cif_t, am_cif_f, am_cif_T, am_cif_F, am_then_s, am_push_s, am_push_n, true_and, and_true, true_or, or_true, Int.cast_ofNat_Int, am_02, am_22, not_true_eq_false, not_false_eq_true]
/-- what the class has read -/
def cO3 (r : vO vD) (k : Int) (M : am_M) : Prop := match r with
  | Sum.inl f => k = f.1 ∧ M 7 3 = f.2
  | Sum.inr D => k = 0 ∧ M 7 3 = -1 ∧ cD D M
theorem cD_fr {M1 : am_M} (cd : cD D M) (h : ∀ k, 8 ≤ k → k ≤ 12 → ∀ j, M1 k j = M k j) : cD D M1 :=
  ⟨(h 8 (by omega) (by omega) 0).trans cd.1, (h 8 (by omega) (by omega) 1).trans cd.2.1, fun l l1 l2 => ⟨(h 11 (by omega) (by omega) l).trans (cd.2.2.1 l l1 l2).1, (h 10 (by omega) (by omega) l).trans (cd.2.2.1 l l1 l2).2⟩, fun l k l1 l2 k1 k2 => (h 12 (by omega) (by omega) _).trans (cd.2.2.2.1 l k l1 l2 k1 k2), fun a c c1 c2 c3 c4 => (h 9 (by omega) (by omega) _).trans (cd.2.2.2.2 a c c1 c2 c3 c4)⟩
theorem k_read (hS : ly S) (hT : hTL T L) (n1 : M 7 2 = L) (n2 : ∀ j, 0 ≤ j → j < L → M 13 j = T j) : ∃ M1 k, am_call 34 [am_r 7] S M = some (some (am_i k), S, M1) ∧ fr 7 12 M M1 ∧ M1 7 2 = 0 ∧ cO3 (sc T L 200 (tb T L 0) vD0) k M1 := by
  obtain ⟨re0, re1, re2, re3⟩ := hS.2.2.2.1
  obtain ⟨dr0, dr1, dr2, dr3, dr4, dr5, dr6, dr7, dr8⟩ := hS.2.2.1
  have t2 := hT.2
  have g0 : cG T L 0 (am_wr (am_wr (am_wr (am_wr (am_wr M 8 0 0) 8 1 0) 7 4 0) 7 3 (-1)) 7 5 0) := by
    refine ⟨⟨?_, am_wr_s, fun j j1 j2 => ?_, by omega, by omega⟩, ?_, ?_⟩
    · rw [am_wr_i (by omega), am_wr_i (by omega), am_wr_i (by omega), am_wr_k (by omega), am_wr_k (by omega)]; exact n1
    · rw [am_wr_k (by omega), am_wr_k (by omega), am_wr_k (by omega), am_wr_k (by omega), am_wr_k (by omega)]; exact n2 j j1 j2
    · rw [am_wr_i (by omega), am_wr_i (by omega), am_wr_s]
    · rw [am_wr_i (by omega), am_wr_s]
  have d0 : cD vD0 (am_wr (am_wr (am_wr (am_wr (am_wr M 8 0 0) 8 1 0) 7 4 0) 7 3 (-1)) 7 5 0) := by
    refine ⟨?_, ?_, fun l l1 l2 => absurd l2 (by show ¬ l < 0; omega), fun l k l1 l2 => absurd l2 (by show ¬ l < 0; omega), fun p q p1 p2 => absurd p2 (by show ¬ p < 0; omega)⟩
    · rw [am_wr_k (by omega), am_wr_k (by omega), am_wr_k (by omega), am_wr_i (by omega), am_wr_s]; rfl
    · rw [am_wr_k (by omega), am_wr_k (by omega), am_wr_k (by omega), am_wr_s]; rfl
  obtain ⟨Ma, a1, a2, a3⟩ := k_skip hS hT g0.1
  have g1 := cG_f5 g0 a3 a2
  have d1 := cD_fr d0 (fun k h1 h2 => a3.1 k (by omega))
  obtain ⟨Mb, c1, b1, b2, b3⟩ := k_clauses hS hT 200 0 (tb T L 0) vD0 Ma (by omega) (by omega) okD0 g1 d1
  have fr0 : fr 7 12 M (am_wr (am_wr (am_wr (am_wr (am_wr M 8 0 0) 8 1 0) 7 4 0) 7 3 (-1)) 7 5 0) := fr_tr (fr_wr (by omega)) (fr_tr (fr_wr (by omega)) (fr_tr (fr_wr (by omega)) (fr_tr (fr_wr (by omega)) (fr_wr (by omega)))))
  have frb : fr 7 12 M (am_wr Mb 7 2 0) := fr_tr fr0 (fr_tr (fr_mono a3.1 (by omega) (by omega)) (fr_tr b2 (fr_wr (by omega))))
  have e4 : am_wr Mb 7 2 0 7 4 = Mb 7 4 := am_wr_i (by omega)
  refine ⟨am_wr Mb 7 2 0, Mb 7 4, ?_, frb, am_wr_s, ?_⟩
  · simp (disch := omega) only [c_Re_read, b_Re_read_0, b_Re_read_35, re0, re1, re2, re3, dr0, dr1, dr2, dr3, dr4, dr5, dr6, dr7, dr8, a1, b1, b_Re_read_72, e4, am_ck_T, am_ck_t, am_cif_t, am_cif_f, am_cif_T, am_cif_F, am_then_s, am_push_s, am_push_n, true_and, and_true, true_or, or_true, Int.cast_ofNat_Int, am_02, am_22, not_true_eq_false, not_false_eq_true]
  · generalize sc T L 200 (tb T L 0) vD0 = r at b3
    match r, b3 with
    | Sum.inl f, b3 => exact ⟨b3.2.1, (am_wr_i (by omega)).trans b3.2.2⟩
    | Sum.inr D, b3 =>
      obtain ⟨⟨i, g⟩, cd⟩ := b3
      exact ⟨g.2.1, (am_wr_i (by omega)).trans g.2.2, cD_fr cd (fun k h1 h2 j => am_wr_k (by omega))⟩
end READ3
