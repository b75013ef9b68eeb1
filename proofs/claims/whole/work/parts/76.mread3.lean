/-! the reference reads the text: lines, the whole -/
section MREAD3
variable {S : am_S} {M M1 : am_M} {T : Int → Int} {L a i : Int} {D : vD}
/-- behind a fault the loop of stops ends -/
theorem m_stops_f (hS : ly S) (hT : hTL T L) {l w had k x f1 f2 : Int} {o5 o6 o7 o8 : Option am_V} (l1 : 6 ≤ l) (l2 : l < 12) (k1 : 0 ≤ k) (k2 : k < 6) (g : mV T L f1 f2 M) : ∃ M1 o9 o10 o11, am_R 116 73 [some (am_r 164), some (am_i w), some (am_i l), some (am_i had), some (am_i k), o5, o6, o7, o8] [am_i x] S M = am_R 116 229 [some (am_r 164), some (am_i w), some (am_i l), some (am_i (am_or had (am_shl 1 x))), some (am_i (k + 1)), some (am_i 0), o9, o10, o11] [] S M1 ∧ mV T L f1 f2 M1 ∧ gs l M M1 := by
  obtain ⟨mo0, ⟨mr0, mr1, mr2, mr3, mr4, mr5, mr6, mr7, mr8, mr9, mr10, mr11⟩, mk0, mk1, mk2, mk3, mk4, mk5, mk6, mk7, mk8, mk9, mk10, mk11⟩ := hS.2.2.2.2.2.2.2.2.2.2
  have g1 := mV_k (k := 168) (j := 6 * l + k) (v := x) g (by omega) (by omega)
  obtain ⟨⟨b, r⟩, e1, e2, e3, e4⟩ := g1
  obtain ⟨Ma, a1, a2, a3⟩ := m_here hS hT r
  have ga : mV T L f1 f2 Ma := ⟨⟨_, a2⟩, (a3.2 14 (by omega)).trans e1, (a3.2 15 (by omega)).trans e2, e3, e4⟩
  have y := fun (n : Int) (w : Int) => m_wantF (n := n) (w := w) hS ga (show am_Ri 1 from ⟨by omega, by omega⟩)
  have z14 := ga.2.1
  have cr := tc_rng hT (tb T L b)
  have fin : am_R 116 63 [some (am_r 164), some (am_i w), some (am_i l), some (am_i (am_or had (am_shl 1 x))), some (am_i (k + 1)), some (am_i 0), some (am_i x), some (am_i 1), some (am_i 0)] [] S Ma = am_R 116 229 [some (am_r 164), some (am_i w), some (am_i l), some (am_i (am_or had (am_shl 1 x))), some (am_i (k + 1)), some (am_i 0), some (am_i x), some (am_i 1), some (am_i 0)] [] S Ma := by
    rw [b_Mo_takeLine_63]
    simp (disch := omega) only [am_ck_T, am_ck_t, am_cif_t, am_cif_f, am_cif_T, am_cif_F, am_then_s, am_push_s, am_push_n, true_and, and_true, true_or, or_true, Int.cast_ofNat_Int, am_02, am_22, not_true_eq_false, not_false_eq_true]
  have fin0 : am_R 116 63 [some (am_r 164), some (am_i w), some (am_i l), some (am_i (am_or had (am_shl 1 x))), some (am_i (k + 1)), some (am_i 0), some (am_i x), some (am_i 0), some (am_i 0)] [] S Ma = am_R 116 229 [some (am_r 164), some (am_i w), some (am_i l), some (am_i (am_or had (am_shl 1 x))), some (am_i (k + 1)), some (am_i 0), some (am_i x), some (am_i 0), some (am_i 0)] [] S Ma := by
    rw [b_Mo_takeLine_63]
    simp (disch := omega) only [am_ck_T, am_ck_t, am_cif_t, am_cif_f, am_cif_T, am_cif_F, am_then_s, am_push_s, am_push_n, true_and, and_true, true_or, or_true, Int.cast_ofNat_Int, am_02, am_22, not_true_eq_false, not_false_eq_true]
  by_cases hc : tc T L (tb T L b) = 44
  · refine ⟨Ma, some (am_i x), some (am_i 1), some (am_i 0), ?_, ga, gs_tr (gs_wr (j := 6 * l + k) (by omega)) (gp_gs (g12_gp a3))⟩
    rw [← fin]
    simp (disch := omega) only [b_Mo_takeLine_73, b_Mo_takeLine_103, b_Mo_takeLine_108, b_Mo_takeLine_113, b_Mo_takeLine_134, b_Mo_takeLine_139, b_Mo_takeLine_147, b_Mo_takeLine_165, b_Mo_takeLine_166, b_Mo_takeLine_207, b_Mo_takeLine_223, b_Mo_takeLine_224, mo0, mr0, mr1, mr2, mr3, mr4, mr5, mr6, mr7, mr8, mr9, mr10, mr11, mk0, mk1, mk2, mk3, mk4, mk5, mk6, mk7, mk8, mk9, mk10, mk11, a1, z14, y, am_ck_T, am_ck_t, am_cif_t, am_cif_f, am_cif_T, am_cif_F, am_then_s, am_push_s, am_push_n, true_and, and_true, true_or, or_true, Int.cast_ofNat_Int, am_02, am_22, not_true_eq_false, not_false_eq_true]
  · refine ⟨Ma, some (am_i x), some (am_i 0), some (am_i 0), ?_, ga, gs_tr (gs_wr (j := 6 * l + k) (by omega)) (gp_gs (g12_gp a3))⟩
    rw [← fin0]
    simp (disch := omega) only [b_Mo_takeLine_73, b_Mo_takeLine_103, b_Mo_takeLine_112, b_Mo_takeLine_113, b_Mo_takeLine_134, b_Mo_takeLine_139, b_Mo_takeLine_147, b_Mo_takeLine_165, b_Mo_takeLine_166, b_Mo_takeLine_207, b_Mo_takeLine_223, b_Mo_takeLine_224, mo0, mr0, mr1, mr2, mr3, mr4, mr5, mr6, mr7, mr8, mr9, mr10, mr11, mk0, mk1, mk2, mk3, mk4, mk5, mk6, mk7, mk8, mk9, mk10, mk11, a1, z14, y, am_ck_T, am_ck_t, am_cif_t, am_cif_f, am_cif_T, am_cif_F, am_then_s, am_push_s, am_push_n, true_and, and_true, true_or, or_true, Int.cast_ofNat_Int, am_02, am_22, not_true_eq_false, not_false_eq_true]
theorem m_stops (hS : ly S) (hT : hTL T L) {l w np : Int} (l1 : 6 ≤ l) (l2 : l < 12) (np1 : 0 ≤ np) (np2 : np ≤ 8) : ∀ (n : Nat) (k a had : Int) (F : Int → Int) (M : am_M) (o6 o7 o8 : Option am_V), 0 ≤ k → k + n = 5 → mg T L a M → M 164 7 = np → bs had (fun x => ∃ b, 0 ≤ b ∧ b < k ∧ F b = x) → (∀ b, 0 ≤ b → b < k → M 168 (6 * l + b) = F b) →
    (∃ f M1 h' n' o9 o10 o11, (ssn T L (np - 1) n k (tb T L a) F = Sum.inl f ∨ ∃ t, ssn T L (np - 1) n k (tb T L a) F = Sum.inr t ∧ (t.2.1 < L ∧ T t.2.1 = 44) ∧ f = (1, t.2.1)) ∧ am_R 116 63 [some (am_r 164), some (am_i w), some (am_i l), some (am_i had), some (am_i k), some (am_i 1), o6, o7, o8] [] S M = am_R 116 229 [some (am_r 164), some (am_i w), some (am_i l), some (am_i h'), some (am_i n'), some (am_i 0), o9, o10, o11] [] S M1 ∧ mV T L f.1 f.2 M1 ∧ gs l M M1) ∨
    (∃ t M1 h' o9 o10 o11, ssn T L (np - 1) n k (tb T L a) F = Sum.inr t ∧ am_R 116 63 [some (am_r 164), some (am_i w), some (am_i l), some (am_i had), some (am_i k), some (am_i 1), o6, o7, o8] [] S M = am_R 116 229 [some (am_r 164), some (am_i w), some (am_i l), some (am_i h'), some (am_i t.1), some (am_i 0), o9, o10, o11] [] S M1 ∧ (∃ a, mg T L a M1 ∧ tb T L a = t.2.1) ∧ (∀ b, 0 ≤ b → b < t.1 → M1 168 (6 * l + b) = t.2.2 b) ∧ gs l M M1) := by
  obtain ⟨mo0, ⟨mr0, mr1, mr2, mr3, mr4, mr5, mr6, mr7, mr8, mr9, mr10, mr11⟩, mk0, mk1, mk2, mk3, mk4, mk5, mk6, mk7, mk8, mk9, mk10, mk11⟩ := hS.2.2.2.2.2.2.2.2.2.2
  have t2 := hT.2
  intro n
  induction n with
  | zero =>
    intro k a had F M o6 o7 o8 k1 k2 g hn hb hF
    have ra := tb_rng (T := T) g.1.2.2.2.2
    obtain ⟨Mt, x, c1, c2, c3, c4, c5⟩ := m_takeStop hS hT g hn np1 np2 hb
    have vi := vfi_iff (F := F) (x := tw T L (tb T L a)) k1
    have uf : ssn T L (np - 1) 0 k (tb T L a) F = if tn T L (tb T L a) (np - 1) ≠ 0 then Sum.inl (tn T L (tb T L a) (np - 1), tb T L a) else if vfi F (tw T L (tb T L a)) k.toNat 0 ≠ -1 then Sum.inl (4, tb T L a) else Sum.inr (k + 1, tb T L (te T L (tb T L a)), fun b => if b = k then tw T L (tb T L a) else F b) := rfl
    rw [b_Mo_takeLine_63, uf]
    by_cases h0 : tn T L (tb T L a) (np - 1) ≠ 0
    · rw [if_pos h0]
      obtain ⟨_, gv⟩ := c3 h0
      obtain ⟨M1, o9, o10, o11, d1, d2, d3⟩ := m_stops_f (w := w) (had := had) (x := x) (o5 := some (am_i 1)) (o6 := o6) (o7 := o7) (o8 := o8) hS hT l1 l2 k1 (show k < 6 by omega) gv
      refine Or.inl ⟨_, M1, am_or had (am_shl 1 x), k + 1, o9, o10, o11, Or.inl rfl, ?_, d2, gs_tr (gp_gs c2) d3⟩
      rw [← d1]
      simp (disch := omega) only [b_Mo_takeLine_68, mo0, mr0, mr1, mr2, mr3, mr4, mr5, mr6, mr7, mr8, mr9, mr10, mr11, mk0, mk1, mk2, mk3, mk4, mk5, mk6, mk7, mk8, mk9, mk10, mk11, c1, am_ck_T, am_ck_t, am_cif_t, am_cif_f, am_cif_T, am_cif_F, am_then_s, am_push_s, am_push_n, true_and, and_true, true_or, or_true, Int.cast_ofNat_Int, am_02, am_22, not_true_eq_false, not_false_eq_true]
    · rw [if_neg h0]
      have h00 : tn T L (tb T L a) (np - 1) = 0 := Classical.byContradiction h0
      have t0 := tn_0 h00
      have rv := tw_rng ra.2 t0.2.1
      by_cases hv : vfi F (tw T L (tb T L a)) k.toNat 0 ≠ -1
      · rw [if_pos hv]
        obtain ⟨_, gv⟩ := c4 h00 (vi.mp hv)
        obtain ⟨M1, o9, o10, o11, d1, d2, d3⟩ := m_stops_f (w := w) (had := had) (x := x) (o5 := some (am_i 1)) (o6 := o6) (o7 := o7) (o8 := o8) hS hT l1 l2 k1 (show k < 6 by omega) gv
        refine Or.inl ⟨_, M1, am_or had (am_shl 1 x), k + 1, o9, o10, o11, Or.inl rfl, ?_, d2, gs_tr (gp_gs c2) d3⟩
        rw [← d1]
        simp (disch := omega) only [b_Mo_takeLine_68, mo0, mr0, mr1, mr2, mr3, mr4, mr5, mr6, mr7, mr8, mr9, mr10, mr11, mk0, mk1, mk2, mk3, mk4, mk5, mk6, mk7, mk8, mk9, mk10, mk11, c1, am_ck_T, am_ck_t, am_cif_t, am_cif_f, am_cif_T, am_cif_F, am_then_s, am_push_s, am_push_n, true_and, and_true, true_or, or_true, Int.cast_ofNat_Int, am_02, am_22, not_true_eq_false, not_false_eq_true]
      · rw [if_neg hv]
        obtain ⟨ex, gt⟩ := c5 h00 (fun z => hv (vi.mpr z))
        have g1 := mg_k (k := 168) (j := 6 * l + k) (v := x) gt (by omega) (by omega)
        obtain ⟨Ma, a1, a2, a3⟩ := m_here hS hT g1.1
        have ga := mg_12 g1 a3 a2
        have z14 := ga.2.1
        have z12 := ga.1.2.1
        have cr := tc_rng hT (tb T L (te T L (tb T L a)))
        have ci := tc_c (T := T) (L := L) (i := tb T L (te T L (tb T L a))) (c := 44) (by omega)
        have fs0 : gs l M Ma := gs_tr (gp_gs c2) (gs_tr (gs_wr (j := 6 * l + k) (by omega)) (gp_gs (g12_gp a3)))
        by_cases hc : tb T L (te T L (tb T L a)) < L ∧ T (tb T L (te T L (tb T L a))) = 44
        · have hcc := ci.mpr hc
          have y1 := fun (w : Int) => m_want1 (n := 1) (w := w) hS z14
          have y0 := m_want0 (n := 1) (w := tb T L (te T L (tb T L a))) hS z14 (by omega) (by omega)
          have gv : mV T L 1 (tb T L (te T L (tb T L a))) (am_wr (am_wr Ma 164 14 1) 164 15 (tb T L (te T L (tb T L a)))) := mV_mark ga.1 (by omega) (by omega)
          have v14 := gv.2.1
          refine Or.inl ⟨(1, tb T L (te T L (tb T L a))), am_wr (am_wr Ma 164 14 1) 164 15 (tb T L (te T L (tb T L a))), am_or had (am_shl 1 x), k + 1, some (am_i x), some (am_i 1), some (am_i 1), Or.inr ⟨_, rfl, hc, rfl⟩, ?_, gv, gs_tr fs0 (gp_gs (gp_tr (gp_wr (by omega)) (gp_wr (by omega))))⟩
          have fin : am_R 116 63 [some (am_r 164), some (am_i w), some (am_i l), some (am_i (am_or had (am_shl 1 x))), some (am_i (k + 1)), some (am_i 0), some (am_i x), some (am_i 1), some (am_i 1)] [] S (am_wr (am_wr Ma 164 14 1) 164 15 (tb T L (te T L (tb T L a)))) = am_R 116 229 [some (am_r 164), some (am_i w), some (am_i l), some (am_i (am_or had (am_shl 1 x))), some (am_i (k + 1)), some (am_i 0), some (am_i x), some (am_i 1), some (am_i 1)] [] S (am_wr (am_wr Ma 164 14 1) 164 15 (tb T L (te T L (tb T L a)))) := by
            rw [b_Mo_takeLine_63]
            simp (disch := omega) only [am_ck_T, am_ck_t, am_cif_t, am_cif_f, am_cif_T, am_cif_F, am_then_s, am_push_s, am_push_n, true_and, and_true, true_or, or_true, Int.cast_ofNat_Int, am_02, am_22, not_true_eq_false, not_false_eq_true]
          rw [← fin]
          simp (disch := omega) only [b_Mo_takeLine_68, c1, b_Mo_takeLine_73, b_Mo_takeLine_103, b_Mo_takeLine_108, b_Mo_takeLine_113, b_Mo_takeLine_123, b_Mo_takeLine_134, b_Mo_takeLine_139, b_Mo_takeLine_147, b_Mo_takeLine_156, b_Mo_takeLine_161, b_Mo_takeLine_166, b_Mo_takeLine_173, b_Mo_takeLine_185, b_Mo_takeLine_186, b_Mo_takeLine_194, b_Mo_takeLine_207, b_Mo_takeLine_212, b_Mo_takeLine_223, b_Mo_takeLine_224, mo0, mr0, mr1, mr2, mr3, mr4, mr5, mr6, mr7, mr8, mr9, mr10, mr11, mk0, mk1, mk2, mk3, mk4, mk5, mk6, mk7, mk8, mk9, mk10, mk11, a1, z14, z12, y1, y0, v14, am_ck_T, am_ck_t, am_cif_t, am_cif_f, am_cif_T, am_cif_F, am_then_s, am_push_s, am_push_n, true_and, and_true, true_or, or_true, Int.cast_ofNat_Int, am_02, am_22, not_true_eq_false, not_false_eq_true]
        · have hcc : ¬ tc T L (tb T L (te T L (tb T L a))) = 44 := fun z => hc (ci.mp z)
          have y1 := fun (w : Int) => m_want1 (n := 1) (w := w) hS z14
          refine Or.inr ⟨_, Ma, am_or had (am_shl 1 x), some (am_i x), some (am_i 0), some (am_i 1), rfl, ?_, ⟨_, ga, tb_id gt.1.2.2.2.2⟩, fun b b1 b2 => ?_, fs0⟩
          · have fin : am_R 116 63 [some (am_r 164), some (am_i w), some (am_i l), some (am_i (am_or had (am_shl 1 x))), some (am_i (k + 1)), some (am_i 0), some (am_i x), some (am_i 0), some (am_i 1)] [] S Ma = am_R 116 229 [some (am_r 164), some (am_i w), some (am_i l), some (am_i (am_or had (am_shl 1 x))), some (am_i (k + 1)), some (am_i 0), some (am_i x), some (am_i 0), some (am_i 1)] [] S Ma := by
              rw [b_Mo_takeLine_63]
              simp (disch := omega) only [am_ck_T, am_ck_t, am_cif_t, am_cif_f, am_cif_T, am_cif_F, am_then_s, am_push_s, am_push_n, true_and, and_true, true_or, or_true, Int.cast_ofNat_Int, am_02, am_22, not_true_eq_false, not_false_eq_true]
            rw [← fin]
            simp (disch := omega) only [b_Mo_takeLine_68, c1, b_Mo_takeLine_73, b_Mo_takeLine_103, b_Mo_takeLine_112, b_Mo_takeLine_113, b_Mo_takeLine_123, b_Mo_takeLine_128, b_Mo_takeLine_134, b_Mo_takeLine_139, b_Mo_takeLine_147, b_Mo_takeLine_156, b_Mo_takeLine_165, b_Mo_takeLine_166, b_Mo_takeLine_207, b_Mo_takeLine_223, b_Mo_takeLine_224, mo0, mr0, mr1, mr2, mr3, mr4, mr5, mr6, mr7, mr8, mr9, mr10, mr11, mk0, mk1, mk2, mk3, mk4, mk5, mk6, mk7, mk8, mk9, mk10, mk11, a1, z14, z12, y1, am_ck_T, am_ck_t, am_cif_t, am_cif_f, am_cif_T, am_cif_F, am_then_s, am_push_s, am_push_n, true_and, and_true, true_or, or_true, Int.cast_ofNat_Int, am_02, am_22, not_true_eq_false, not_false_eq_true]
          · have b2' : b < k + 1 := b2
            show Ma 168 (6 * l + b) = if b = k then tw T L (tb T L a) else F b
            rw [a3.1 168 (by omega)]
            by_cases e : b = k
            · rw [if_pos e, e, am_wr_s, ex]
            · rw [if_neg e, am_wr_i (by omega), c2.1 168 (by omega)]
              exact hF b b1 (by omega)
  | succ n ih =>
    intro k a had F M o6 o7 o8 k1 k2 g hn hb hF
    have ra := tb_rng (T := T) g.1.2.2.2.2
    obtain ⟨Mt, x, c1, c2, c3, c4, c5⟩ := m_takeStop hS hT g hn np1 np2 hb
    have vi := vfi_iff (F := F) (x := tw T L (tb T L a)) k1
    have uf : ssn T L (np - 1) (n + 1) k (tb T L a) F = if tn T L (tb T L a) (np - 1) ≠ 0 then Sum.inl (tn T L (tb T L a) (np - 1), tb T L a) else if vfi F (tw T L (tb T L a)) k.toNat 0 ≠ -1 then Sum.inl (4, tb T L a) else if 2 ≤ k + 1 ∧ ¬ (tb T L (te T L (tb T L a)) < L ∧ T (tb T L (te T L (tb T L a))) = 44) then Sum.inr (k + 1, tb T L (te T L (tb T L a)), fun b => if b = k then tw T L (tb T L a) else F b) else if 0 < k + 1 ∧ ¬ (tb T L (te T L (tb T L a)) < L ∧ T (tb T L (te T L (tb T L a))) = 44) then Sum.inl (1, tb T L (te T L (tb T L a))) else ssn T L (np - 1) n (k + 1) (tj T L (k + 1) (tb T L (te T L (tb T L a)))) (fun b => if b = k then tw T L (tb T L a) else F b) := rfl
    rw [b_Mo_takeLine_63, uf]
    by_cases h0 : tn T L (tb T L a) (np - 1) ≠ 0
    · rw [if_pos h0]
      obtain ⟨_, gv⟩ := c3 h0
      obtain ⟨M1, o9, o10, o11, d1, d2, d3⟩ := m_stops_f (w := w) (had := had) (x := x) (o5 := some (am_i 1)) (o6 := o6) (o7 := o7) (o8 := o8) hS hT l1 l2 k1 (show k < 6 by omega) gv
      refine Or.inl ⟨_, M1, am_or had (am_shl 1 x), k + 1, o9, o10, o11, Or.inl rfl, ?_, d2, gs_tr (gp_gs c2) d3⟩
      rw [← d1]
      simp (disch := omega) only [b_Mo_takeLine_68, mo0, mr0, mr1, mr2, mr3, mr4, mr5, mr6, mr7, mr8, mr9, mr10, mr11, mk0, mk1, mk2, mk3, mk4, mk5, mk6, mk7, mk8, mk9, mk10, mk11, c1, am_ck_T, am_ck_t, am_cif_t, am_cif_f, am_cif_T, am_cif_F, am_then_s, am_push_s, am_push_n, true_and, and_true, true_or, or_true, Int.cast_ofNat_Int, am_02, am_22, not_true_eq_false, not_false_eq_true]
    · rw [if_neg h0]
      have h00 : tn T L (tb T L a) (np - 1) = 0 := Classical.byContradiction h0
      have t0 := tn_0 h00
      have rv := tw_rng ra.2 t0.2.1
      by_cases hv : vfi F (tw T L (tb T L a)) k.toNat 0 ≠ -1
      · rw [if_pos hv]
        obtain ⟨_, gv⟩ := c4 h00 (vi.mp hv)
        obtain ⟨M1, o9, o10, o11, d1, d2, d3⟩ := m_stops_f (w := w) (had := had) (x := x) (o5 := some (am_i 1)) (o6 := o6) (o7 := o7) (o8 := o8) hS hT l1 l2 k1 (show k < 6 by omega) gv
        refine Or.inl ⟨_, M1, am_or had (am_shl 1 x), k + 1, o9, o10, o11, Or.inl rfl, ?_, d2, gs_tr (gp_gs c2) d3⟩
        rw [← d1]
        simp (disch := omega) only [b_Mo_takeLine_68, mo0, mr0, mr1, mr2, mr3, mr4, mr5, mr6, mr7, mr8, mr9, mr10, mr11, mk0, mk1, mk2, mk3, mk4, mk5, mk6, mk7, mk8, mk9, mk10, mk11, c1, am_ck_T, am_ck_t, am_cif_t, am_cif_f, am_cif_T, am_cif_F, am_then_s, am_push_s, am_push_n, true_and, and_true, true_or, or_true, Int.cast_ofNat_Int, am_02, am_22, not_true_eq_false, not_false_eq_true]
      · rw [if_neg hv]
        obtain ⟨ex, gt⟩ := c5 h00 (fun z => hv (vi.mpr z))
        have g1 := mg_k (k := 168) (j := 6 * l + k) (v := x) gt (by omega) (by omega)
        obtain ⟨Ma, a1, a2, a3⟩ := m_here hS hT g1.1
        have ga := mg_12 g1 a3 a2
        have z14 := ga.2.1
        have z12 := ga.1.2.1
        have cr := tc_rng hT (tb T L (te T L (tb T L a)))
        have ci := tc_c (T := T) (L := L) (i := tb T L (te T L (tb T L a))) (c := 44) (by omega)
        have fs0 : gs l M Ma := gs_tr (gp_gs c2) (gs_tr (gs_wr (j := 6 * l + k) (by omega)) (gp_gs (g12_gp a3)))
        have hFa : ∀ b, 0 ≤ b → b < k + 1 → Ma 168 (6 * l + b) = if b = k then tw T L (tb T L a) else F b := by
          intro b b1 b2
          rw [a3.1 168 (by omega)]
          by_cases e : b = k
          · rw [if_pos e, e, am_wr_s, ex]
          · rw [if_neg e, am_wr_i (by omega), c2.1 168 (by omega)]
            exact hF b b1 (by omega)
        have y1 := fun (w : Int) => m_want1 (n := 1) (w := w) hS z14
        by_cases hc : tb T L (te T L (tb T L a)) < L ∧ T (tb T L (te T L (tb T L a))) = 44
        · have hcc := ci.mpr hc
          rw [if_neg (fun z => z.2 hc), if_neg (fun z => z.2 hc)]
          have gn : mg T L (tb T L (te T L (tb T L a)) + 1) (am_wr Ma 164 12 (tb T L (te T L (tb T L a)) + 1)) := mg_12 ga g12_wr (md_set ga.1 (by have := ga.1.2.2.2; omega) (by omega))
          have v14 := gn.2.1
          have ej : tb T L (tb T L (te T L (tb T L a)) + 1) = tj T L (k + 1) (tb T L (te T L (tb T L a))) := by unfold tj; rw [if_pos (by omega)]
          have n7 : am_wr Ma 164 12 (tb T L (te T L (tb T L a)) + 1) 164 7 = np := (am_wr_i (by omega)).trans ((fs0.2.1 7 (by omega) (by omega) (by omega) (by omega)).trans hn)
          have hb1 : bs (am_or had (am_shl 1 x)) (fun y => ∃ b, 0 ≤ b ∧ b < k + 1 ∧ (if b = k then tw T L (tb T L a) else F b) = y) := by
            refine bs_c (bs_or hb (bs_one (q := x) (by omega) (by omega))) (fun y _ _ => ?_)
            constructor
            · rintro (⟨b, b1, b2, b3⟩ | z)
              · exact ⟨b, b1, by omega, by rw [if_neg (by omega)]; exact b3⟩
              · have z' : y = x := z
                exact ⟨k, k1, by omega, by rw [if_pos rfl, z', ex]⟩
            · rintro ⟨b, b1, b2, b3⟩
              by_cases e : b = k
              · rw [if_pos e] at b3
                exact Or.inr (by show y = x; rw [ex, b3])
              · rw [if_neg e] at b3
                exact Or.inl ⟨b, b1, by omega, b3⟩
          have res := ih (k + 1) (tb T L (te T L (tb T L a)) + 1) (am_or had (am_shl 1 x)) (fun b => if b = k then tw T L (tb T L a) else F b) (am_wr Ma 164 12 (tb T L (te T L (tb T L a)) + 1)) (some (am_i x)) (some (am_i 1)) (some (am_i 1)) (by omega) (by omega) gn n7 hb1 (fun b b1 b2 => (am_wr_k (by omega)).trans (hFa b b1 b2))
          rw [ej] at res
          have fs1 : gs l M (am_wr Ma 164 12 (tb T L (te T L (tb T L a)) + 1)) := gs_tr fs0 (gp_gs (gp_wr (by omega)))
          have go : am_R 116 68 [some (am_r 164), some (am_i w), some (am_i l), some (am_i had), some (am_i k), some (am_i 1), o6, o7, o8] [] S M = am_R 116 63 [some (am_r 164), some (am_i w), some (am_i l), some (am_i (am_or had (am_shl 1 x))), some (am_i (k + 1)), some (am_i 1), some (am_i x), some (am_i 1), some (am_i 1)] [] S (am_wr Ma 164 12 (tb T L (te T L (tb T L a)) + 1)) := by
            simp (disch := omega) only [b_Mo_takeLine_68, c1, b_Mo_takeLine_73, b_Mo_takeLine_103, b_Mo_takeLine_108, b_Mo_takeLine_113, b_Mo_takeLine_123, b_Mo_takeLine_134, b_Mo_takeLine_139, b_Mo_takeLine_147, b_Mo_takeLine_156, b_Mo_takeLine_161, b_Mo_takeLine_166, b_Mo_takeLine_173, b_Mo_takeLine_181, b_Mo_takeLine_186, b_Mo_takeLine_194, b_Mo_takeLine_197, b_Mo_takeLine_207, b_Mo_takeLine_212, b_Mo_takeLine_219, b_Mo_takeLine_224, mo0, mr0, mr1, mr2, mr3, mr4, mr5, mr6, mr7, mr8, mr9, mr10, mr11, mk0, mk1, mk2, mk3, mk4, mk5, mk6, mk7, mk8, mk9, mk10, mk11, a1, z14, z12, y1, v14, am_ck_T, am_ck_t, am_cif_t, am_cif_f, am_cif_T, am_cif_F, am_then_s, am_push_s, am_push_n, true_and, and_true, true_or, or_true, Int.cast_ofNat_Int, am_02, am_22, not_true_eq_false, not_false_eq_true]
          rcases res with ⟨f, M2, h', n', o9, o10, o11, u1, u2, u3, u4⟩ | ⟨t, M2, h', o9, o10, o11, u1, u2, u3, u4, u5⟩
          · refine Or.inl ⟨f, M2, h', n', o9, o10, o11, u1, ?_, u3, gs_tr fs1 u4⟩
            simp (disch := omega) only [go, u2, am_ck_T, am_ck_t, am_cif_t, am_cif_f, am_cif_T, am_cif_F, am_then_s, am_push_s, am_push_n, true_and, and_true, true_or, or_true, Int.cast_ofNat_Int, am_02, am_22, not_true_eq_false, not_false_eq_true]
          · refine Or.inr ⟨t, M2, h', o9, o10, o11, u1, ?_, u3, u4, gs_tr fs1 u5⟩
            simp (disch := omega) only [go, u2, am_ck_T, am_ck_t, am_cif_t, am_cif_f, am_cif_T, am_cif_F, am_then_s, am_push_s, am_push_n, true_and, and_true, true_or, or_true, Int.cast_ofNat_Int, am_02, am_22, not_true_eq_false, not_false_eq_true]
        · have hcc : ¬ tc T L (tb T L (te T L (tb T L a))) = 44 := fun z => hc (ci.mp z)
          by_cases hk : k = 0
          · rw [if_neg (fun z => by omega), if_pos ⟨by omega, hc⟩]
            have y0 := m_want0 (n := 1) (w := tb T L (te T L (tb T L a))) hS z14 (by omega) (by omega)
            have gv : mV T L 1 (tb T L (te T L (tb T L a))) (am_wr (am_wr Ma 164 14 1) 164 15 (tb T L (te T L (tb T L a)))) := mV_mark ga.1 (by omega) (by omega)
            have v14 := gv.2.1
            have fin : am_R 116 63 [some (am_r 164), some (am_i w), some (am_i l), some (am_i (am_or had (am_shl 1 x))), some (am_i (k + 1)), some (am_i 0), some (am_i x), some (am_i 0), some (am_i 0)] [] S (am_wr (am_wr Ma 164 14 1) 164 15 (tb T L (te T L (tb T L a)))) = am_R 116 229 [some (am_r 164), some (am_i w), some (am_i l), some (am_i (am_or had (am_shl 1 x))), some (am_i (k + 1)), some (am_i 0), some (am_i x), some (am_i 0), some (am_i 0)] [] S (am_wr (am_wr Ma 164 14 1) 164 15 (tb T L (te T L (tb T L a)))) := by
              rw [b_Mo_takeLine_63]
              simp (disch := omega) only [am_ck_T, am_ck_t, am_cif_t, am_cif_f, am_cif_T, am_cif_F, am_then_s, am_push_s, am_push_n, true_and, and_true, true_or, or_true, Int.cast_ofNat_Int, am_02, am_22, not_true_eq_false, not_false_eq_true]
            refine Or.inl ⟨_, am_wr (am_wr Ma 164 14 1) 164 15 (tb T L (te T L (tb T L a))), am_or had (am_shl 1 x), k + 1, some (am_i x), some (am_i 0), some (am_i 0), Or.inl rfl, ?_, gv, gs_tr fs0 (gp_gs (gp_tr (gp_wr (by omega)) (gp_wr (by omega))))⟩
            rw [← fin]
            simp (disch := omega) only [b_Mo_takeLine_68, c1, b_Mo_takeLine_73, b_Mo_takeLine_103, b_Mo_takeLine_112, b_Mo_takeLine_113, b_Mo_takeLine_123, b_Mo_takeLine_128, b_Mo_takeLine_138, b_Mo_takeLine_139, b_Mo_takeLine_147, b_Mo_takeLine_165, b_Mo_takeLine_166, b_Mo_takeLine_207, b_Mo_takeLine_223, b_Mo_takeLine_224, mo0, mr0, mr1, mr2, mr3, mr4, mr5, mr6, mr7, mr8, mr9, mr10, mr11, mk0, mk1, mk2, mk3, mk4, mk5, mk6, mk7, mk8, mk9, mk10, mk11, a1, z14, z12, y0, v14, am_ck_T, am_ck_t, am_cif_t, am_cif_f, am_cif_T, am_cif_F, am_then_s, am_push_s, am_push_n, true_and, and_true, true_or, or_true, Int.cast_ofNat_Int, am_02, am_22, not_true_eq_false, not_false_eq_true]
          · rw [if_pos ⟨by omega, hc⟩]
            refine Or.inr ⟨_, Ma, am_or had (am_shl 1 x), some (am_i x), some (am_i 0), some (am_i 1), rfl, ?_, ⟨_, ga, tb_id gt.1.2.2.2.2⟩, hFa, fs0⟩
            have fin : am_R 116 63 [some (am_r 164), some (am_i w), some (am_i l), some (am_i (am_or had (am_shl 1 x))), some (am_i (k + 1)), some (am_i 0), some (am_i x), some (am_i 0), some (am_i 1)] [] S Ma = am_R 116 229 [some (am_r 164), some (am_i w), some (am_i l), some (am_i (am_or had (am_shl 1 x))), some (am_i (k + 1)), some (am_i 0), some (am_i x), some (am_i 0), some (am_i 1)] [] S Ma := by
              rw [b_Mo_takeLine_63]
              simp (disch := omega) only [am_ck_T, am_ck_t, am_cif_t, am_cif_f, am_cif_T, am_cif_F, am_then_s, am_push_s, am_push_n, true_and, and_true, true_or, or_true, Int.cast_ofNat_Int, am_02, am_22, not_true_eq_false, not_false_eq_true]
            rw [← fin]
            simp (disch := omega) only [b_Mo_takeLine_68, c1, b_Mo_takeLine_73, b_Mo_takeLine_103, b_Mo_takeLine_112, b_Mo_takeLine_113, b_Mo_takeLine_123, b_Mo_takeLine_128, b_Mo_takeLine_134, b_Mo_takeLine_139, b_Mo_takeLine_147, b_Mo_takeLine_156, b_Mo_takeLine_165, b_Mo_takeLine_166, b_Mo_takeLine_207, b_Mo_takeLine_223, b_Mo_takeLine_224, mo0, mr0, mr1, mr2, mr3, mr4, mr5, mr6, mr7, mr8, mr9, mr10, mr11, mk0, mk1, mk2, mk3, mk4, mk5, mk6, mk7, mk8, mk9, mk10, mk11, a1, z14, z12, y1, am_ck_T, am_ck_t, am_cif_t, am_cif_f, am_cif_T, am_cif_F, am_then_s, am_push_s, am_push_n, true_and, and_true, true_or, or_true, Int.cast_ofNat_Int, am_02, am_22, not_true_eq_false, not_false_eq_true]
end MREAD3
