/-! the reference reads the text: the whole -/
def mO2 (T : Int → Int) (L : Int) (r : vO vD) (M : am_M) : Prop := match r with
  | Sum.inl f => mV T L f.1 f.2 M
  | Sum.inr D => (∃ a, mg T L a M) ∧ mD D M
section MREAD4
variable {S : am_S} {M M1 : am_M} {T : Int → Int} {L a i : Int} {D : vD}
theorem gw_170 {j v : Int} (h : 6 ≤ j) : gw M (am_wr M 170 j v) := ⟨fun k _ _ _ _ e j => am_wr_k e, fun j _ _ _ _ _ _ => am_wr_k (by omega), fun j _ => am_wr_k (by omega), fun j _ => am_wr_k (by omega), fun i hi => am_wr_i (by omega)⟩
theorem gw_169 {j v : Int} (h : 6 ≤ j) : gw M (am_wr M 169 j v) := ⟨fun k _ _ _ d _ j => am_wr_k d, fun j _ _ _ _ _ _ => am_wr_k (by omega), fun j _ => am_wr_k (by omega), fun i hi => am_wr_i (by omega), fun j _ => am_wr_k (by omega)⟩
theorem gw_9 {v : Int} : gw M (am_wr M 164 9 v) := ⟨fun k a _ _ _ _ j => am_wr_k a, fun j _ b _ _ _ _ => am_wr_i b, fun j _ => am_wr_k (by omega), fun j _ => am_wr_k (by omega), fun j _ => am_wr_k (by omega)⟩
theorem ss_6 {m i : Int} {F : Int → Int} : ss T L m 6 0 i F = ssn T L m 5 0 i F := by
  have e : tj T L 0 i = i := by unfold tj; rw [if_neg (by omega)]
  have uf : ss T L m 6 0 i F = if 2 ≤ (0 : Int) ∧ ¬ (i < L ∧ T i = 44) then Sum.inr (0, i, F) else if 0 < (0 : Int) ∧ ¬ (i < L ∧ T i = 44) then Sum.inl (1, i) else ssn T L m 5 0 (tj T L 0 i) F := rfl
  rw [uf, if_neg (fun z => absurd z.1 (by omega)), if_neg (fun z => absurd z.1 (by omega)), e]
theorem m_line (hS : ly S) (hT : hTL T L) (hD : okD D) (g : mg T L (i + 1) M) (cd : mD D M) (hi : am_Ri i) : ∃ r M1, am_call 116 [am_r 164, am_i i] S M = some (none, S, M1) ∧ gw M M1 ∧ mO T L r M1 ∧ sm T L r = sm T L (sl0 T L i D) := by
  obtain ⟨mo0, ⟨mr0, mr1, mr2, mr3, mr4, mr5, mr6, mr7, mr8, mr9, mr10, mr11⟩, mk0, mk1, mk2, mk3, mk4, mk5, mk6, mk7, mk8, mk9, mk10, mk11⟩ := hS.2.2.2.2.2.2.2.2.2.2
  have hP := hD.1
  have hP1 := hP.1
  have hP2 := hP.2.1
  have hP3 := hP.2.2.1
  have hP4 := hP.2.2.2.1
  have n1 := cd.1
  have n2 := cd.2.1
  have q14 := g.2.1
  by_cases h6 : 6 ≤ vnl D.1
  · have e2 := m_want0 (n := 3) (w := i) hS q14 (by omega) (by omega)
    have es : sl0 T L i D = Sum.inl (3, i) := by unfold sl0; rw [if_pos h6]
    refine ⟨Sum.inl (3, i), am_wr (am_wr M 164 14 3) 164 15 i, ?_, gp_gw (gp_tr (gp_wr (by omega)) (gp_wr (by omega))), mV_mark g.1 (by omega) (by omega), by rw [es]⟩
    simp (disch := omega) only [c_Mo_takeLine, b_Mo_takeLine_0, b_Mo_takeLine_14, b_Mo_takeLine_15, b_Mo_takeLine_20, b_Mo_takeLine_23, mo0, mr0, mr1, mr2, mr3, mr4, mr5, mr6, mr7, mr8, mr9, mr10, mr11, mk0, mk1, mk2, mk3, mk4, mk5, mk6, mk7, mk8, mk9, mk10, mk11, n2, e2, am_ck_T, am_ck_t, am_cif_t, am_cif_f, am_cif_T, am_cif_F, am_then_s, am_push_s, am_push_n, true_and, and_true, true_or, or_true, Int.cast_ofNat_Int, am_02, am_22, not_true_eq_false, not_false_eq_true]
  · have e2 := m_want1 (n := 3) (w := i) hS q14
    obtain ⟨Mt, v, v1, v2, v3, v4⟩ := m_takeIn hS hT g (show am_Ri 3 from ⟨by omega, by omega⟩)
    have gw0 : gw M (am_wr Mt 170 (6 + vnl D.1) v) := gw_tr (gp_gw v2) (gw_170 (by omega))
    by_cases h0 : tn T L (tb T L (i + 1)) 3 = 0
    · obtain ⟨e1, e3, e4⟩ := v3 h0
      have t0 := tn_0 h0
      have g1 : mg T L (te T L (tb T L (i + 1))) (am_wr Mt 170 (6 + vnl D.1) v) := mg_k e3 (by omega) (by omega)
      have z14 := g1.2.1
      have es : sl0 T L i D = sl2 D (tw T L (tb T L (i + 1))) (ssn T L (vnp D.1 - 1) 5 0 (tb T L (te T L (tb T L (i + 1)))) (fun _ => 0)) := by unfold sl0; rw [if_neg h6, if_neg (fun z => z h0), ss_6]
      have m7 : am_wr Mt 170 (6 + vnl D.1) v 164 7 = vnp D.1 := (am_wr_k (by omega)).trans ((v2.2 7 (by omega) (by omega) (by omega) (by omega)).trans n1)
      have st := m_stops (w := i) hS hT (show 6 ≤ 6 + vnl D.1 by omega) (show 6 + vnl D.1 < 12 by omega) hP1 hP2 5 0 (te T L (tb T L (i + 1))) 0 (fun _ => 0) (am_wr Mt 170 (6 + vnl D.1) v) none none none (by omega) (by omega) g1 m7 (bs_c bs_0 (fun x _ _ => ⟨fun z => z.elim, fun ⟨b, b1, b2, _⟩ => by omega⟩)) (fun b b1 b2 => by omega)
      rcases st with ⟨f, M2, h', n', o9, o10, o11, u1, u2, u3, u4⟩ | ⟨t, M2, h', o9, o10, o11, u1, u2, u3, u4, u5⟩
      · have n3 : am_wr M2 169 (6 + vnl D.1) n' 164 9 = vnl D.1 := (am_wr_k (by omega)).trans ((u4.2.1 9 (by omega) (by omega) (by omega) (by omega)).trans ((am_wr_k (by omega)).trans ((v2.2 9 (by omega) (by omega) (by omega) (by omega)).trans n2)))
        refine ⟨Sum.inl f, am_wr (am_wr M2 169 (6 + vnl D.1) n') 164 9 (vnl D.1 + 1), ?_, gw_tr gw0 (gw_tr (gs_gw u4 (by omega)) (gw_tr (gw_169 (by omega)) gw_9)), ?_, ?_⟩
        · simp (disch := omega) only [c_Mo_takeLine, b_Mo_takeLine_0, b_Mo_takeLine_10, b_Mo_takeLine_15, b_Mo_takeLine_20, b_Mo_takeLine_24, b_Mo_takeLine_43, b_Mo_takeLine_56, b_Mo_takeLine_61, b_Mo_takeLine_229, mo0, mr0, mr1, mr2, mr3, mr4, mr5, mr6, mr7, mr8, mr9, mr10, mr11, mk0, mk1, mk2, mk3, mk4, mk5, mk6, mk7, mk8, mk9, mk10, mk11, n2, e2, v1, z14, u2, n3, am_ck_T, am_ck_t, am_cif_t, am_cif_f, am_cif_T, am_cif_F, am_then_s, am_push_s, am_push_n, true_and, and_true, true_or, or_true, Int.cast_ofNat_Int, am_02, am_22, not_true_eq_false, not_false_eq_true]
        · exact mV_j (mV_k u3 (by omega) (by omega)) (by omega) (by omega) (by omega) (by omega)
        · rw [es]
          rcases u1 with u1 | ⟨t, u1, hc, hf⟩
          · rw [u1]; rfl
          · rw [u1, hf]
            have ez : sm T L (sl2 D (tw T L (tb T L (i + 1))) (Sum.inr t)) = Sum.inl (1, t.2.1) := if_neg (fun z => by have a1 : T t.2.1 = 59 := z.2; have a2 : T t.2.1 = 44 := hc.2; omega)
            rw [ez]; rfl
      · have n3 : am_wr M2 169 (6 + vnl D.1) t.1 164 9 = vnl D.1 := (am_wr_k (by omega)).trans ((u5.2.1 9 (by omega) (by omega) (by omega) (by omega)).trans ((am_wr_k (by omega)).trans ((v2.2 9 (by omega) (by omega) (by omega) (by omega)).trans n2)))
        refine ⟨sl2 D (tw T L (tb T L (i + 1))) (Sum.inr t), am_wr (am_wr M2 169 (6 + vnl D.1) t.1) 164 9 (vnl D.1 + 1), ?_, gw_tr gw0 (gw_tr (gs_gw u5 (by omega)) (gw_tr (gw_169 (by omega)) gw_9)), ?_, by rw [es, u1]⟩
        · simp (disch := omega) only [c_Mo_takeLine, b_Mo_takeLine_0, b_Mo_takeLine_10, b_Mo_takeLine_15, b_Mo_takeLine_20, b_Mo_takeLine_24, b_Mo_takeLine_43, b_Mo_takeLine_56, b_Mo_takeLine_61, b_Mo_takeLine_229, mo0, mr0, mr1, mr2, mr3, mr4, mr5, mr6, mr7, mr8, mr9, mr10, mr11, mk0, mk1, mk2, mk3, mk4, mk5, mk6, mk7, mk8, mk9, mk10, mk11, n2, e2, v1, z14, u2, n3, am_ck_T, am_ck_t, am_cif_t, am_cif_f, am_cif_T, am_cif_F, am_then_s, am_push_s, am_push_n, true_and, and_true, true_or, or_true, Int.cast_ofNat_Int, am_02, am_22, not_true_eq_false, not_false_eq_true]
        · obtain ⟨b, g2, eb⟩ := u3
          refine ⟨⟨b, mg_j (mg_k g2 (by omega) (by omega)) (by omega) (by omega) (by omega) (by omega), eb⟩, ?_, am_wr_s, fun l l1 l2 => ⟨?_, ?_⟩, fun l k l1 l2 k1 k2 => ?_, fun x c c1 c2 c3 c4 => ?_⟩
          · exact (am_wr_i (by omega)).trans ((am_wr_k (by omega)).trans ((u5.2.1 7 (by omega) (by omega) (by omega) (by omega)).trans m7))
          · have l2' : l < vnl D.1 + 1 := l2
            show _ = if l = vnl D.1 then t.1 else vsz D.1 l
            rw [am_wr_k (by omega)]
            by_cases e : l = vnl D.1
            · rw [if_pos e, e, am_wr_s]
            · rw [if_neg e, am_wr_i (by omega), u5.1 169 (by omega) (by omega), am_wr_k (by omega), v2.1 169 (by omega)]
              exact (cd.2.2.1 l l1 (by omega)).1
          · have l2' : l < vnl D.1 + 1 := l2
            show _ = if l = vnl D.1 then tw T L (tb T L (i + 1)) else vfr D.1 l
            rw [am_wr_k (by omega), am_wr_k (by omega), u5.1 170 (by omega) (by omega)]
            by_cases e : l = vnl D.1
            · rw [if_pos e, e, am_wr_s, e1]
            · rw [if_neg e, am_wr_i (by omega), v2.1 170 (by omega)]
              exact (cd.2.2.1 l l1 (by omega)).2
          · have l2' : l < vnl D.1 + 1 := l2
            have k2' : k < (if l = vnl D.1 then t.1 else vsz D.1 l) := k2
            show _ = if l = vnl D.1 then t.2.2 k else vst D.1 l k
            rw [am_wr_k (by omega), am_wr_k (by omega)]
            by_cases e : l = vnl D.1
            · rw [if_pos e]
              rw [if_pos e] at k2'
              rw [e]
              exact u4 k k1 k2'
            · rw [if_neg e]
              rw [if_neg e] at k2'
              have s1 := hP.2.2.2.2.1 l l1 (by omega)
              rw [u5.2.2 _ (by omega), am_wr_k (by omega), v2.1 168 (by omega)]
              exact cd.2.2.2.1 l k l1 (by omega) k1 k2'
          · rw [am_wr_k (by omega), am_wr_k (by omega), u5.1 167 (by omega) (by omega), am_wr_k (by omega), v2.1 167 (by omega)]
            exact cd.2.2.2.2 x c c1 c2 c3 c4
    · obtain ⟨e1, e3⟩ := v4 h0
      have g1 := mV_k (k := 170) (j := 6 + vnl D.1) (v := v) e3 (by omega) (by omega)
      obtain ⟨_, y1, y2, y3, y4⟩ := g1
      have es : sl0 T L i D = Sum.inl (tn T L (tb T L (i + 1)) 3, tb T L (i + 1)) := by unfold sl0; rw [if_neg h6, if_pos h0]
      have n3 : am_wr (am_wr Mt 170 (6 + vnl D.1) v) 169 (6 + vnl D.1) 0 164 9 = vnl D.1 := (am_wr_k (by omega)).trans ((am_wr_k (by omega)).trans ((v2.2 9 (by omega) (by omega) (by omega) (by omega)).trans n2))
      refine ⟨Sum.inl (tn T L (tb T L (i + 1)) 3, tb T L (i + 1)), am_wr (am_wr (am_wr Mt 170 (6 + vnl D.1) v) 169 (6 + vnl D.1) 0) 164 9 (vnl D.1 + 1), ?_, gw_tr gw0 (gw_tr (gw_169 (by omega)) gw_9), ?_, by rw [es]⟩
      · have fin : am_R 116 63 [some (am_r 164), some (am_i i), some (am_i (6 + vnl D.1)), some (am_i 0), some (am_i 0), some (am_i 0), none, none, none] [] S (am_wr Mt 170 (6 + vnl D.1) v) = am_R 116 229 [some (am_r 164), some (am_i i), some (am_i (6 + vnl D.1)), some (am_i 0), some (am_i 0), some (am_i 0), none, none, none] [] S (am_wr Mt 170 (6 + vnl D.1) v) := by
          rw [b_Mo_takeLine_63]
          simp (disch := omega) only [am_ck_T, am_ck_t, am_cif_t, am_cif_f, am_cif_T, am_cif_F, am_then_s, am_push_s, am_push_n, true_and, and_true, true_or, or_true, Int.cast_ofNat_Int, am_02, am_22, not_true_eq_false, not_false_eq_true]
        simp (disch := omega) only [c_Mo_takeLine, b_Mo_takeLine_0, b_Mo_takeLine_10, b_Mo_takeLine_15, b_Mo_takeLine_20, b_Mo_takeLine_24, b_Mo_takeLine_43, b_Mo_takeLine_60, b_Mo_takeLine_61, fin, b_Mo_takeLine_229, mo0, mr0, mr1, mr2, mr3, mr4, mr5, mr6, mr7, mr8, mr9, mr10, mr11, mk0, mk1, mk2, mk3, mk4, mk5, mk6, mk7, mk8, mk9, mk10, mk11, n2, e2, v1, y1, n3, am_ck_T, am_ck_t, am_cif_t, am_cif_f, am_cif_T, am_cif_F, am_then_s, am_push_s, am_push_n, true_and, and_true, true_or, or_true, Int.cast_ofNat_Int, am_02, am_22, not_true_eq_false, not_false_eq_true]
      · exact mV_j (mV_k (mV_k e3 (by omega) (by omega)) (by omega) (by omega)) (by omega) (by omega) (by omega) (by omega)
theorem mD_12 (cd : mD D M) (h : g12 M M1) : mD D M1 :=
  ⟨(h.2 7 (by omega)).trans cd.1, (h.2 9 (by omega)).trans cd.2.1, fun l l1 l2 => ⟨(h.1 169 (by omega) _).trans (cd.2.2.1 l l1 l2).1, (h.1 170 (by omega) _).trans (cd.2.2.1 l l1 l2).2⟩, fun l k l1 l2 k1 k2 => (h.1 168 (by omega) _).trans (cd.2.2.2.1 l k l1 l2 k1 k2), fun x c c1 c2 c3 c4 => (h.1 167 (by omega) _).trans (cd.2.2.2.2 x c c1 c2 c3 c4)⟩
theorem m_clause (hS : ly S) (hT : hTL T L) (hD : okD D) (g : mg T L a M) (cd : mD D M) (hi : tb T L a < L) : ∃ r M1, am_call 117 [am_r 164] S M = some (none, S, M1) ∧ gw M M1 ∧ mO T L r M1 ∧ sm T L r = sm T L (sk T L (tb T L a) D) := by
  obtain ⟨mo0, ⟨mr0, mr1, mr2, mr3, mr4, mr5, mr6, mr7, mr8, mr9, mr10, mr11⟩, mk0, mk1, mk2, mk3, mk4, mk5, mk6, mk7, mk8, mk9, mk10, mk11⟩ := hS.2.2.2.2.2.2.2.2.2.2
  have t2 := hT.2
  have t1 := hT.1 (tb T L a)
  have ra := tb_rng (T := T) g.1.2.2.2.2
  have g4 := g.1.2.2.2.1
  obtain ⟨Ma, a1, a2, a3⟩ := m_here hS hT g.1
  have ga := mg_12 g a3 a2
  have e0 : tc T L (tb T L a) = T (tb T L a) := by unfold tc; rw [if_pos hi]
  rw [e0] at a1
  have p12 := ga.1.2.1
  have gb : mg T L (tb T L a + 1) (am_wr Ma 164 12 (tb T L a + 1)) := mg_12 ga g12_wr (md_set ga.1 (by omega) (by omega))
  have cb : mD D (am_wr Ma 164 12 (tb T L a + 1)) := mD_12 (mD_12 cd a3) g12_wr
  have f0 : gw M (am_wr Ma 164 12 (tb T L a + 1)) := gp_gw (gp_tr (g12_gp a3) (g12_gp g12_wr))
  unfold sk
  by_cases h1 : T (tb T L a) = 112
  · rw [if_pos h1]
    obtain ⟨M1, d1, d2, d3⟩ := m_person hS hT hD gb cb ⟨by omega, by omega⟩
    refine ⟨sp0 T L (tb T L a) D, M1, ?_, gw_tr f0 d2, d3, rfl⟩
    simp (disch := omega) only [c_Mo_takeClause, b_Mo_takeClause_0, b_Mo_takeClause_4, b_Mo_takeClause_26, b_Mo_takeClause_31, b_Mo_takeClause_59, mo0, mr0, mr1, mr2, mr3, mr4, mr5, mr6, mr7, mr8, mr9, mr10, mr11, mk0, mk1, mk2, mk3, mk4, mk5, mk6, mk7, mk8, mk9, mk10, mk11, a1, p12, d1, am_ck_T, am_ck_t, am_cif_t, am_cif_f, am_cif_T, am_cif_F, am_then_s, am_push_s, am_push_n, true_and, and_true, true_or, or_true, Int.cast_ofNat_Int, am_02, am_22, not_true_eq_false, not_false_eq_true]
  · rw [if_neg h1]
    by_cases h2 : T (tb T L a) = 108
    · rw [if_pos h2]
      have y := m_want1 (n := 1) (w := tb T L a) hS gb.2.1
      obtain ⟨r, M1, d1, d2, d3, d4⟩ := m_line hS hT hD gb cb ⟨by omega, by omega⟩
      refine ⟨r, M1, ?_, gw_tr f0 d2, d3, d4⟩
      simp (disch := omega) only [c_Mo_takeClause, b_Mo_takeClause_0, b_Mo_takeClause_4, b_Mo_takeClause_34, b_Mo_takeClause_41, b_Mo_takeClause_46, b_Mo_takeClause_51, b_Mo_takeClause_54, b_Mo_takeClause_59, mo0, mr0, mr1, mr2, mr3, mr4, mr5, mr6, mr7, mr8, mr9, mr10, mr11, mk0, mk1, mk2, mk3, mk4, mk5, mk6, mk7, mk8, mk9, mk10, mk11, a1, p12, y, d1, am_ck_T, am_ck_t, am_cif_t, am_cif_f, am_cif_T, am_cif_F, am_then_s, am_push_s, am_push_n, true_and, and_true, true_or, or_true, Int.cast_ofNat_Int, am_02, am_22, not_true_eq_false, not_false_eq_true]
    · rw [if_neg h2]
      have y := m_want0 (n := 1) (w := tb T L a) hS gb.2.1 (by omega) (by omega)
      refine ⟨Sum.inl (1, tb T L a), am_wr (am_wr (am_wr Ma 164 12 (tb T L a + 1)) 164 14 1) 164 15 (tb T L a), ?_, gw_tr f0 (gp_gw (gp_tr (gp_wr (by omega)) (gp_wr (by omega)))), mV_mark gb.1 (by omega) (by omega), rfl⟩
      simp (disch := omega) only [c_Mo_takeClause, b_Mo_takeClause_0, b_Mo_takeClause_4, b_Mo_takeClause_34, b_Mo_takeClause_45, b_Mo_takeClause_46, b_Mo_takeClause_51, b_Mo_takeClause_59, mo0, mr0, mr1, mr2, mr3, mr4, mr5, mr6, mr7, mr8, mr9, mr10, mr11, mk0, mk1, mk2, mk3, mk4, mk5, mk6, mk7, mk8, mk9, mk10, mk11, a1, p12, y, am_ck_T, am_ck_t, am_cif_t, am_cif_f, am_cif_T, am_cif_F, am_then_s, am_push_s, am_push_n, true_and, and_true, true_or, or_true, Int.cast_ofNat_Int, am_02, am_22, not_true_eq_false, not_false_eq_true]
theorem m_parse (hS : ly S) (hT : hTL T L) : ∀ (n : Nat) (a : Int) (D : vD) (M : am_M), L - tb T L a ≤ n → okD D → mg T L a M → mD D M → ∃ M1, am_R 118 25 [some (am_r 164)] [] S M = am_R 118 89 [some (am_r 164)] [] S M1 ∧ gw M M1 ∧ mO2 T L (sc T L n (tb T L a) D) M1 := by
  obtain ⟨mo0, ⟨mr0, mr1, mr2, mr3, mr4, mr5, mr6, mr7, mr8, mr9, mr10, mr11⟩, mk0, mk1, mk2, mk3, mk4, mk5, mk6, mk7, mk8, mk9, mk10, mk11⟩ := hS.2.2.2.2.2.2.2.2.2.2
  have t2 := hT.2
  have stop : ∀ (M : am_M) (k p : Int), mV T L k p M → am_R 118 25 [some (am_r 164)] [] S M = am_R 118 89 [some (am_r 164)] [] S M := by
    intro M k p g
    obtain ⟨_, e1, e2, e3, e4⟩ := g
    rw [b_Mo_town_25]
    simp (disch := omega) only [mo0, mr0, mr1, mr2, mr3, mr4, mr5, mr6, mr7, mr8, mr9, mr10, mr11, mk0, mk1, mk2, mk3, mk4, mk5, mk6, mk7, mk8, mk9, mk10, mk11, e1, am_ck_T, am_ck_t, am_cif_t, am_cif_f, am_cif_T, am_cif_F, am_then_s, am_push_s, am_push_n, true_and, and_true, true_or, or_true, Int.cast_ofNat_Int, am_02, am_22, not_true_eq_false, not_false_eq_true]
  intro n
  induction n with
  | zero =>
    intro a D M hn hD g cd
    have q14 := g.2.1
    obtain ⟨Ma, a1, a2, a3⟩ := m_here hS hT g.1
    have e0 : tc T L (tb T L a) = -1 := by unfold tc; rw [if_neg (by omega)]
    rw [e0] at a1
    refine ⟨Ma, ?_, gp_gw (g12_gp a3), ⟨_, mg_12 g a3 a2⟩, mD_12 cd a3⟩
    rw [b_Mo_town_25]
    simp (disch := omega) only [b_Mo_town_32, b_Mo_town_36, mo0, mr0, mr1, mr2, mr3, mr4, mr5, mr6, mr7, mr8, mr9, mr10, mr11, mk0, mk1, mk2, mk3, mk4, mk5, mk6, mk7, mk8, mk9, mk10, mk11, q14, a1, am_ck_T, am_ck_t, am_cif_t, am_cif_f, am_cif_T, am_cif_F, am_then_s, am_push_s, am_push_n, true_and, and_true, true_or, or_true, Int.cast_ofNat_Int, am_02, am_22, not_true_eq_false, not_false_eq_true]
  | succ n ih =>
    intro a D M hn hD g cd
    have q14 := g.2.1
    have ra := tb_rng (T := T) g.1.2.2.2.2
    have g4 := g.1.2.2.2.1
    have t1 := hT.1 (tb T L a)
    obtain ⟨Ma, a1, a2, a3⟩ := m_here hS hT g.1
    have ga := mg_12 g a3 a2
    have ca := mD_12 cd a3
    have uf : sc T L (n + 1) (tb T L a) D = if tb T L a < L then sc2 (sc T L n) (sm T L (sk T L (tb T L a) D)) else Sum.inr D := rfl
    rw [uf, b_Mo_town_25]
    by_cases hi : tb T L a < L
    · rw [if_pos hi]
      have e0 : tc T L (tb T L a) = T (tb T L a) := by unfold tc; rw [if_pos hi]
      rw [e0] at a1
      have id1 := tb_id (T := T) g.1.2.2.2.2
      obtain ⟨r, Mb, b1, b2, b3, b4⟩ := m_clause hS hT hD ga ca (by rw [id1]; exact hi)
      rw [id1] at b4
      have ok := sm_ok (T := T) (sk_ok (T := T) hD (show 0 ≤ tb T L a by omega) hi) (show 0 ≤ tb T L a by omega)
      rw [← b4] at ok ⊢
      have fa : gw M Mb := gw_tr (gp_gw (g12_gp a3)) b2
      match r, b3, ok with
      | Sum.inl f, b3, ok =>
        have st := stop Mb _ _ b3
        refine ⟨Mb, ?_, fa, b3⟩
        obtain ⟨_, e1, e2, e3, e4⟩ := b3
        simp (disch := omega) only [b_Mo_town_32, b_Mo_town_36, b_Mo_town_39, b_Mo_town_43, mo0, mr0, mr1, mr2, mr3, mr4, mr5, mr6, mr7, mr8, mr9, mr10, mr11, mk0, mk1, mk2, mk3, mk4, mk5, mk6, mk7, mk8, mk9, mk10, mk11, q14, a1, b1, e1, st, am_ck_T, am_ck_t, am_cif_t, am_cif_f, am_cif_T, am_cif_F, am_then_s, am_push_s, am_push_n, true_and, and_true, true_or, or_true, Int.cast_ofNat_Int, am_02, am_22, not_true_eq_false, not_false_eq_true]
      | Sum.inr z, b3, ok =>
        obtain ⟨⟨b, gz, eb⟩, cz⟩ := b3
        have w14 := gz.2.1
        obtain ⟨Mc, c1, c2, c3⟩ := m_here hS hT gz.1
        rw [eb] at c1 c2
        have gc := mg_12 gz c3 c2
        have cc := mD_12 cz c3
        have cr := tc_rng hT z.1
        have ci := tc_c (T := T) (L := L) (i := z.1) (c := 59) (by omega)
        have p12 := gc.1.2.1
        have fc : gw M Mc := gw_tr fa (gp_gw (g12_gp c3))
        by_cases hs : z.1 < L ∧ T z.1 = 59
        · have hcc := ci.mpr hs
          have y := m_want1 (n := 1) (w := z.1) hS gc.2.1
          have ez : sm T L (Sum.inr z) = Sum.inr (tb T L (z.1 + 1), z.2) := if_pos hs
          rw [ez] at ok ⊢
          have gn : mg T L (z.1 + 1) (am_wr Mc 164 12 (z.1 + 1)) := mg_12 gc g12_wr (md_set gc.1 (by have := gc.1.2.2.2; omega) (by omega))
          obtain ⟨M1, d1, d2, d3⟩ := ih (z.1 + 1) z.2 (am_wr Mc 164 12 (z.1 + 1)) (by have := ok.1; change tb T L a < tb T L (z.1 + 1) at this; omega) ok.2.2 gn (mD_12 cc g12_wr)
          refine ⟨M1, ?_, gw_tr fc (gw_tr (gp_gw (gp_wr (by omega))) d2), d3⟩
          simp (disch := omega) only [b_Mo_town_32, b_Mo_town_36, b_Mo_town_39, b_Mo_town_43, b_Mo_town_50, b_Mo_town_55, b_Mo_town_60, b_Mo_town_65, b_Mo_town_73, b_Mo_town_76, mo0, mr0, mr1, mr2, mr3, mr4, mr5, mr6, mr7, mr8, mr9, mr10, mr11, mk0, mk1, mk2, mk3, mk4, mk5, mk6, mk7, mk8, mk9, mk10, mk11, q14, a1, b1, w14, c1, p12, y, d1, am_ck_T, am_ck_t, am_cif_t, am_cif_f, am_cif_T, am_cif_F, am_then_s, am_push_s, am_push_n, true_and, and_true, true_or, or_true, Int.cast_ofNat_Int, am_02, am_22, not_true_eq_false, not_false_eq_true]
        · have hcc : ¬ tc T L z.1 = 59 := fun w => hs (ci.mp w)
          have y := m_want0 (n := 1) (w := z.1) hS gc.2.1 (by omega) (by omega)
          have gv : mV T L 1 z.1 (am_wr (am_wr Mc 164 14 1) 164 15 z.1) := mV_mark gc.1 (by omega) (by omega)
          have st := stop _ _ _ gv
          have ez : sm T L (Sum.inr z) = Sum.inl (1, z.1) := if_neg hs
          rw [ez]
          refine ⟨am_wr (am_wr Mc 164 14 1) 164 15 z.1, ?_, gw_tr fc (gp_gw (gp_tr (gp_wr (by omega)) (gp_wr (by omega)))), gv⟩
          simp (disch := omega) only [b_Mo_town_32, b_Mo_town_36, b_Mo_town_39, b_Mo_town_43, b_Mo_town_50, b_Mo_town_55, b_Mo_town_64, b_Mo_town_65, b_Mo_town_73, mo0, mr0, mr1, mr2, mr3, mr4, mr5, mr6, mr7, mr8, mr9, mr10, mr11, mk0, mk1, mk2, mk3, mk4, mk5, mk6, mk7, mk8, mk9, mk10, mk11, q14, a1, b1, w14, c1, p12, y, st, am_ck_T, am_ck_t, am_cif_t, am_cif_f, am_cif_T, am_cif_F, am_then_s, am_push_s, am_push_n, true_and, and_true, true_or, or_true, Int.cast_ofNat_Int, am_02, am_22, not_true_eq_false, not_false_eq_true]
    · rw [if_neg hi]
      have e0 : tc T L (tb T L a) = -1 := by unfold tc; rw [if_neg hi]
      rw [e0] at a1
      refine ⟨Ma, ?_, gp_gw (g12_gp a3), ⟨_, ga⟩, ca⟩
      simp (disch := omega) only [b_Mo_town_32, b_Mo_town_36, mo0, mr0, mr1, mr2, mr3, mr4, mr5, mr6, mr7, mr8, mr9, mr10, mr11, mk0, mk1, mk2, mk3, mk4, mk5, mk6, mk7, mk8, mk9, mk10, mk11, q14, a1, am_ck_T, am_ck_t, am_cif_t, am_cif_f, am_cif_T, am_cif_F, am_then_s, am_push_s, am_push_n, true_and, and_true, true_or, or_true, Int.cast_ofNat_Int, am_02, am_22, not_true_eq_false, not_false_eq_true]
end MREAD4
