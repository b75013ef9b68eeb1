/-! the class reads the text: clauses -/
/-- the class's draft -/
def cD (D : vD) (M : am_M) : Prop := M 8 0 = vnp D.1 ∧ M 8 1 = vnl D.1 ∧ (∀ l, 0 ≤ l → l < vnl D.1 → M 11 l = vsz D.1 l ∧ M 10 l = vfr D.1 l) ∧ (∀ l k, 0 ≤ l → l < vnl D.1 → 0 ≤ k → k < vsz D.1 l → M 12 (l * 6 + k) = vst D.1 l k) ∧ ∀ p q, 0 ≤ p → p < vnp D.1 → 0 ≤ q → q < vnp D.1 → M 9 (p * 8 + q) = D.2 p q
def cO (T : Int → Int) (L : Int) (r : vO (Int × vD)) (M : am_M) : Prop := match r with
  | Sum.inl f => cF T L f.1 f.2 M
  | Sum.inr z => cG T L z.1 M ∧ cD z.2 M
/-- nearness, as far as person p is read -/
def cN (p q : Int) (N : Int → Int → Int) (M : am_M) : Prop := ∀ a c, 0 ≤ a → a < 8 → 0 ≤ c → c < 8 → ((a < p ∧ c < p) ∨ (a = p ∧ c < q) ∨ (c = p ∧ a < q)) → M 9 (a * 8 + c) = N a c
def f79 (M M1 : am_M) : Prop := ∀ k, k ≠ 7 → k ≠ 9 → ∀ j, M1 k j = M k j
theorem f79_7 {M M1 : am_M} (h : fr 7 7 M M1) : f79 M M1 := fun k a _ j => h k (by omega) j
theorem f79_rf {M : am_M} : f79 M M := fun _ _ _ _ => rfl
theorem f79_tr {M M1 M2 : am_M} (h1 : f79 M M1) (h2 : f79 M1 M2) : f79 M M2 := fun k a c j => (h2 k a c j).trans (h1 k a c j)
theorem f79_fr {M M1 : am_M} (h : f79 M M1) : fr 7 12 M M1 := fun k hk j => h k (by omega) (by omega) j
def f12 (l : Int) (M M1 : am_M) : Prop := (∀ k, k ≠ 7 → k ≠ 12 → ∀ j, M1 k j = M k j) ∧ ∀ j, (j < l * 6 ∨ l * 6 + 6 ≤ j) → M1 12 j = M 12 j
theorem f12_7 {l : Int} {M M1 : am_M} (h : fr 7 7 M M1) : f12 l M M1 := ⟨fun k a _ j => h k (by omega) j, fun j _ => h 12 (by omega) j⟩
theorem f12_rf {l : Int} {M : am_M} : f12 l M M := ⟨fun _ _ _ _ => rfl, fun _ _ => rfl⟩
theorem f12_tr {l : Int} {M M1 M2 : am_M} (h1 : f12 l M M1) (h2 : f12 l M1 M2) : f12 l M M2 := ⟨fun k a c j => (h2.1 k a c j).trans (h1.1 k a c j), fun j a => (h2.2 j a).trans (h1.2 j a)⟩
theorem f12_fr {l : Int} {M M1 : am_M} (h : f12 l M M1) : fr 7 12 M M1 := fun k hk j => h.1 k (by omega) (by omega) j
section READ2
variable {S : am_S} {M M1 : am_M} {T : Int → Int} {L i : Int} {D : vD}
theorem cG_k {k : Nat} {j v : Int} (g : cG T L i M) (h1 : k ≠ 7) (h2 : k ≠ 13) : cG T L i (am_wr M k j v) :=
  ⟨⟨(am_wr_k (by omega)).trans g.1.1, (am_wr_k (by omega)).trans g.1.2.1, fun a a1 a2 => (am_wr_k (by omega)).trans (g.1.2.2.1 a a1 a2), g.1.2.2.2⟩, (am_wr_k (by omega)).trans g.2.1, (am_wr_k (by omega)).trans g.2.2⟩
theorem k_put (hS : ly S) {p q v : Int} (h1 : 0 ≤ p) (h2 : p < 8) (h3 : 0 ≤ q) (h4 : q < 8) : am_call 31 [am_r 8, am_i p, am_i q, am_i v] S M = some (none, S, am_wr (am_wr M 9 (p * 8 + q) v) 9 (q * 8 + p) v) := by
  obtain ⟨dr0, dr1, dr2, dr3, dr4, dr5, dr6, dr7, dr8⟩ := hS.2.2.1
  simp (disch := omega) only [c_Pl_putNearness, b_Pl_putNearness_0, dr0, dr1, dr2, dr3, dr4, dr5, dr6, dr7, dr8, am_ck_T, am_ck_t, am_cif_t, am_cif_f, am_cif_T, am_cif_F, am_then_s, am_push_s, am_push_n, true_and, and_true, true_or, or_true, Int.cast_ofNat_Int, am_02, am_22, not_true_eq_false, not_false_eq_true]
theorem cN_put {p q v : Int} {N : Int → Int → Int} (h : cN p q N M) (h1 : 0 ≤ p) (h2 : p < 8) (h3 : 0 ≤ q) (h4 : q < p) : cN p (q + 1) (nst N p q v) (am_wr (am_wr M 9 (p * 8 + q) v) 9 (q * 8 + p) v) := by
  intro a c a1 a2 c1 c2 hac
  unfold nst
  by_cases e : (a = p ∧ c = q) ∨ (a = q ∧ c = p)
  · rw [if_pos e]
    rcases e with ⟨rfl, rfl⟩ | ⟨rfl, rfl⟩
    · rw [am_wr_i (by omega), am_wr_s]
    · rw [am_wr_s]
  · rw [if_neg e, am_wr_i (by omega), am_wr_i (by omega)]
    exact h a c a1 a2 c1 c2 (by omega)
theorem k_person_loop (hS : ly S) (hT : hTL T L) {p : Int} (p1 : 0 ≤ p) (p2 : p < 8) : ∀ (n : Nat) (q i : Int) (N : Int → Int → Int) (M : am_M) (o3 : Option am_V), 0 ≤ q → q + n = p → cG T L i M → cN p q N M →
    (∃ f M1, sp1 T L p n q i N = Sum.inl f ∧ am_R 36 33 [some (am_r 7), some (am_i p), some (am_i q), o3] [] S M = some (none, S, M1) ∧ cF T L f.1 f.2 M1 ∧ f79 M M1) ∨
    (∃ t M1 o4, sp1 T L p n q i N = Sum.inr t ∧ am_R 36 33 [some (am_r 7), some (am_i p), some (am_i q), o3] [] S M = am_R 36 81 [some (am_r 7), some (am_i p), some (am_i p), o4] [] S M1 ∧ cG T L t.1 M1 ∧ cN p p t.2 M1 ∧ f79 M M1) := by
  obtain ⟨re0, re1, re2, re3⟩ := hS.2.2.2.1
  obtain ⟨dr0, dr1, dr2, dr3, dr4, dr5, dr6, dr7, dr8⟩ := hS.2.2.1
  intro n
  induction n with
  | zero =>
    intro q i N M o3 q1 q2 g cn
    obtain rfl : q = p := by omega
    refine Or.inr ⟨(i, N), M, o3, rfl, ?_, g, cn, f79_rf⟩
    rw [b_Re_readPerson_33]
    simp (disch := omega) only [am_ck_T, am_ck_t, am_cif_t, am_cif_f, am_cif_T, am_cif_F, am_then_s, am_push_s, am_push_n, true_and, and_true, true_or, or_true, Int.cast_ofNat_Int, am_02, am_22, not_true_eq_false, not_false_eq_true]
  | succ n ih =>
    intro q i N M o3 q1 q2 g cn
    have uf : sp1 T L p (n + 1) q i N = if 0 < q ∧ ¬ (i < L ∧ T i = 44) then Sum.inl (1, i) else if tn T L (tj T L q i) 9 ≠ 0 then Sum.inl (tn T L (tj T L q i) 9, tj T L q i) else sp1 T L p n (q + 1) (tb T L (te T L (tj T L q i))) (nst N p q (tw T L (tj T L q i))) := rfl
    have num : ∀ (M : am_M), cG T L (tj T L q i) M → cN p q N M → ¬ (0 < q ∧ ¬ (i < L ∧ T i = 44)) →
      (∃ f M1, sp1 T L p (n + 1) q i N = Sum.inl f ∧ am_R 36 52 [some (am_r 7), some (am_i p), some (am_i q), o3] [] S M = some (none, S, M1) ∧ cF T L f.1 f.2 M1 ∧ f79 M M1) ∨
      (∃ t M1 o4, sp1 T L p (n + 1) q i N = Sum.inr t ∧ am_R 36 52 [some (am_r 7), some (am_i p), some (am_i q), o3] [] S M = am_R 36 81 [some (am_r 7), some (am_i p), some (am_i p), o4] [] S M1 ∧ cG T L t.1 M1 ∧ cN p p t.2 M1 ∧ f79 M M1) := by
      intro M g cn hc
      rw [uf, if_neg hc]
      obtain ⟨M1, v, d1, d2, d3, d4⟩ := k_number hS hT g (show am_Ri 9 from ⟨by omega, by omega⟩)
      by_cases h0 : tn T L (tj T L q i) 9 = 0
      · obtain ⟨e1, e2, e3⟩ := d3 h0
        rw [if_neg (fun z => z h0)]
        have t0 := tn_0 h0
        have rv := tw_rng g.1.2.2.2.2 t0.2.1
        have put := k_put (M := M1) (v := v) hS p1 p2 q1 (show q < 8 by omega)
        have cn1 : cN p q N M1 := fun a c a1 a2 c1 c2 hac => (d2 9 (by omega) _).trans (cn a c a1 a2 c1 c2 hac)
        have cn2 := cN_put (v := v) cn1 p1 p2 q1 (show q < p by omega)
        have g2 : cG T L (tb T L (te T L (tj T L q i))) (am_wr (am_wr M1 9 (p * 8 + q) v) 9 (q * 8 + p) v) := cG_k (cG_k e2 (by omega) (by omega)) (by omega) (by omega)
        have fa : f79 M (am_wr (am_wr M1 9 (p * 8 + q) v) 9 (q * 8 + p) v) := f79_tr (f79_7 d2) (fun k _ c j => (am_wr_k c).trans (am_wr_k c))
        rw [← e1]
        rcases ih (q + 1) _ _ _ (some (am_i v)) (by omega) (by omega) g2 cn2 with ⟨f, M2, u1, u2, u3, u4⟩ | ⟨t, M2, o4, u1, u2, u3, u4, u5⟩
        · refine Or.inl ⟨f, M2, u1, ?_, u3, f79_tr fa u4⟩
          simp (disch := omega) only [b_Re_readPerson_52, b_Re_readPerson_58, b_Re_readPerson_65, b_Re_readPerson_75, re0, re1, re2, re3, dr0, dr1, dr2, dr3, dr4, dr5, dr6, dr7, dr8, d1, put, u2, am_ck_T, am_ck_t, am_cif_t, am_cif_f, am_cif_T, am_cif_F, am_then_s, am_push_s, am_push_n, true_and, and_true, true_or, or_true, Int.cast_ofNat_Int, am_02, am_22, not_true_eq_false, not_false_eq_true]
        · refine Or.inr ⟨t, M2, o4, u1, ?_, u3, u4, f79_tr fa u5⟩
          simp (disch := omega) only [b_Re_readPerson_52, b_Re_readPerson_58, b_Re_readPerson_65, b_Re_readPerson_75, re0, re1, re2, re3, dr0, dr1, dr2, dr3, dr4, dr5, dr6, dr7, dr8, d1, put, u2, am_ck_T, am_ck_t, am_cif_t, am_cif_f, am_cif_T, am_cif_F, am_then_s, am_push_s, am_push_n, true_and, and_true, true_or, or_true, Int.cast_ofNat_Int, am_02, am_22, not_true_eq_false, not_false_eq_true]
      · obtain ⟨e1, e2⟩ := d4 h0
        rw [if_pos h0]
        refine Or.inl ⟨_, M1, rfl, ?_, e2, f79_7 d2⟩
        rw [e1] at d1
        simp (disch := omega) only [b_Re_readPerson_52, b_Re_readPerson_58, b_Re_readPerson_64, re0, re1, re2, re3, dr0, dr1, dr2, dr3, dr4, dr5, dr6, dr7, dr8, d1, am_ck_T, am_ck_t, am_cif_t, am_cif_f, am_cif_T, am_cif_F, am_then_s, am_push_s, am_push_n, true_and, and_true, true_or, or_true, Int.cast_ofNat_Int, am_02, am_22, not_true_eq_false, not_false_eq_true]
    rw [b_Re_readPerson_33]
    by_cases hq : 0 < q
    · obtain ⟨M1, d1, d2, d3, d4⟩ := k_take hS hT g (show am_Ri 44 from ⟨by omega, by omega⟩)
      by_cases hc : i < L ∧ T i = 44
      · rw [bo_t hc] at d1
        have ej : tj T L q i = tb T L (i + 1) := by unfold tj; rw [if_pos hq]
        have g1 : cG T L (tj T L q i) M1 := by rw [ej]; exact d3 hc
        have cn1 : cN p q N M1 := fun a c a1 a2 c1 c2 hac => (d2 9 (by omega) _).trans (cn a c a1 a2 c1 c2 hac)
        rcases num M1 g1 cn1 (fun z => z.2 hc) with ⟨f, M2, u1, u2, u3, u4⟩ | ⟨t, M2, o4, u1, u2, u3, u4, u5⟩
        · refine Or.inl ⟨f, M2, u1, ?_, u3, f79_tr (f79_7 d2) u4⟩
          simp (disch := omega) only [b_Re_readPerson_38, b_Re_readPerson_42, b_Re_readPerson_48, re0, re1, re2, re3, dr0, dr1, dr2, dr3, dr4, dr5, dr6, dr7, dr8, d1, u2, am_ck_T, am_ck_t, am_cif_t, am_cif_f, am_cif_T, am_cif_F, am_then_s, am_push_s, am_push_n, true_and, and_true, true_or, or_true, Int.cast_ofNat_Int, am_02, am_22, not_true_eq_false, not_false_eq_true]
        · refine Or.inr ⟨t, M2, o4, u1, ?_, u3, u4, f79_tr (f79_7 d2) u5⟩
          simp (disch := omega) only [b_Re_readPerson_38, b_Re_readPerson_42, b_Re_readPerson_48, re0, re1, re2, re3, dr0, dr1, dr2, dr3, dr4, dr5, dr6, dr7, dr8, d1, u2, am_ck_T, am_ck_t, am_cif_t, am_cif_f, am_cif_T, am_cif_F, am_then_s, am_push_s, am_push_n, true_and, and_true, true_or, or_true, Int.cast_ofNat_Int, am_02, am_22, not_true_eq_false, not_false_eq_true]
      · rw [bo_f hc] at d1
        refine Or.inl ⟨(1, i), M1, by rw [uf, if_pos ⟨hq, hc⟩], ?_, d4 hc, f79_7 d2⟩
        simp (disch := omega) only [b_Re_readPerson_38, b_Re_readPerson_42, b_Re_readPerson_48, b_Re_readPerson_51, re0, re1, re2, re3, dr0, dr1, dr2, dr3, dr4, dr5, dr6, dr7, dr8, d1, am_ck_T, am_ck_t, am_cif_t, am_cif_f, am_cif_T, am_cif_F, am_then_s, am_push_s, am_push_n, true_and, and_true, true_or, or_true, Int.cast_ofNat_Int, am_02, am_22, not_true_eq_false, not_false_eq_true]
    · have ej : tj T L q i = i := by unfold tj; rw [if_neg hq]
      have g1 : cG T L (tj T L q i) M := by rw [ej]; exact g
      rcases num M g1 cn (fun z => hq z.1) with ⟨f, M2, u1, u2, u3, u4⟩ | ⟨t, M2, o4, u1, u2, u3, u4, u5⟩
      · refine Or.inl ⟨f, M2, u1, ?_, u3, u4⟩
        simp (disch := omega) only [b_Re_readPerson_38, re0, re1, re2, re3, dr0, dr1, dr2, dr3, dr4, dr5, dr6, dr7, dr8, u2, am_ck_T, am_ck_t, am_cif_t, am_cif_f, am_cif_T, am_cif_F, am_then_s, am_push_s, am_push_n, true_and, and_true, true_or, or_true, Int.cast_ofNat_Int, am_02, am_22, not_true_eq_false, not_false_eq_true]
      · refine Or.inr ⟨t, M2, o4, u1, ?_, u3, u4, u5⟩
        simp (disch := omega) only [b_Re_readPerson_38, re0, re1, re2, re3, dr0, dr1, dr2, dr3, dr4, dr5, dr6, dr7, dr8, u2, am_ck_T, am_ck_t, am_cif_t, am_cif_f, am_cif_T, am_cif_F, am_then_s, am_push_s, am_push_n, true_and, and_true, true_or, or_true, Int.cast_ofNat_Int, am_02, am_22, not_true_eq_false, not_false_eq_true]
theorem k_person (hS : ly S) (hT : hTL T L) (hD : okD D) (g : cG T L i M) (cd : cD D M) (hi : i < L) (hc : T i = 112) : ∃ M1, am_call 36 [am_r 7] S M = some (none, S, M1) ∧ fr 7 12 M M1 ∧ cO T L (sm T L (sp0 T L i D)) M1 := by
  obtain ⟨re0, re1, re2, re3⟩ := hS.2.2.2.1
  obtain ⟨dr0, dr1, dr2, dr3, dr4, dr5, dr6, dr7, dr8⟩ := hS.2.2.1
  have hP := hD.1
  have hP1 := hP.1
  have hP2 := hP.2.1
  have hP3 := hP.2.2.1
  have hP4 := hP.2.2.2.1
  have n1 := cd.1
  have r2 := g.1.2.1
  by_cases h8 : 8 ≤ vnp D.1
  · have e2 := k_mark (M := M) hS 3 i
    have es : sp0 T L i D = Sum.inl (3, i) := by unfold sp0; rw [if_pos h8]
    refine ⟨am_wr (am_wr M 7 4 3) 7 3 i, ?_, fr_tr (fr_wr (by omega)) (fr_wr (by omega)), ?_⟩
    · simp (disch := omega) only [c_Re_readPerson, b_Re_readPerson_0, b_Re_readPerson_14, b_Re_readPerson_23, re0, re1, re2, re3, dr0, dr1, dr2, dr3, dr4, dr5, dr6, dr7, dr8, n1, r2, e2, am_ck_T, am_ck_t, am_cif_t, am_cif_f, am_cif_T, am_cif_F, am_then_s, am_push_s, am_push_n, true_and, and_true, true_or, or_true, Int.cast_ofNat_Int, am_02, am_22, not_true_eq_false, not_false_eq_true]
    · rw [es]; exact cF_mark g.1
  · have es : sp0 T L i D = sp2 (vnp D.1) (vnl D.1) D.1.2 (sp1 T L (vnp D.1) (vnp D.1).toNat 0 (tb T L (i + 1)) D.2) := by unfold sp0; rw [if_neg h8]
    obtain ⟨Ma, a1, a2, a3, a4⟩ := k_take hS hT g (show am_Ri 112 from ⟨by omega, by omega⟩)
    rw [bo_t ⟨hi, hc⟩] at a1
    have g1 := a3 ⟨hi, hc⟩
    have cn : cN (vnp D.1) 0 D.2 Ma := fun a c b1 b2 b3 b4 hac => (a2 9 (by omega) _).trans (cd.2.2.2.2 a c b1 (by omega) b3 (by omega))
    rcases k_person_loop hS hT hP1 (show vnp D.1 < 8 by omega) (vnp D.1).toNat 0 (tb T L (i + 1)) D.2 Ma none (by omega) (by omega) g1 cn with ⟨f, M2, u1, u2, u3, u4⟩ | ⟨t, M2, o4, u1, u2, u3, u4, u5⟩
    · refine ⟨M2, ?_, fr_tr (fr_mono a2 (by omega) (by omega)) (f79_fr u4), ?_⟩
      · simp (disch := omega) only [c_Re_readPerson, b_Re_readPerson_0, b_Re_readPerson_24, b_Re_readPerson_30, re0, re1, re2, re3, dr0, dr1, dr2, dr3, dr4, dr5, dr6, dr7, dr8, n1, a1, u2, am_ck_T, am_ck_t, am_cif_t, am_cif_f, am_cif_T, am_cif_F, am_then_s, am_push_s, am_push_n, true_and, and_true, true_or, or_true, Int.cast_ofNat_Int, am_02, am_22, not_true_eq_false, not_false_eq_true]
      · rw [es, u1]; exact u3
    · rw [es, u1]
      obtain ⟨Mb, b1, b2, b3, b4⟩ := k_take hS hT u3 (show am_Ri 59 from ⟨by omega, by omega⟩)
      have fa : f79 M Mb := f79_tr (f79_7 a2) (f79_tr u5 (f79_7 b2))
      by_cases hs : t.1 < L ∧ T t.1 = 59
      · rw [bo_t hs] at b1
        have put := k_put (M := Mb) (v := 9) hS hP1 (show vnp D.1 < 8 by omega) hP1 (show vnp D.1 < 8 by omega)
        have n2 : am_wr (am_wr Mb 9 (vnp D.1 * 8 + vnp D.1) 9) 9 (vnp D.1 * 8 + vnp D.1) 9 8 0 = vnp D.1 := ((am_wr_k (by omega)).trans (am_wr_k (by omega))).trans ((fa 8 (by omega) (by omega) 0).trans n1)
        refine ⟨am_wr (am_wr (am_wr Mb 9 (vnp D.1 * 8 + vnp D.1) 9) 9 (vnp D.1 * 8 + vnp D.1) 9) 8 0 (vnp D.1 + 1), ?_, ?_, ?_⟩
        · simp (disch := omega) only [c_Re_readPerson, b_Re_readPerson_0, b_Re_readPerson_24, b_Re_readPerson_30, b_Re_readPerson_81, b_Re_readPerson_87, b_Re_readPerson_90, b_Re_readPerson_101, b_Re_readPerson_114, re0, re1, re2, re3, dr0, dr1, dr2, dr3, dr4, dr5, dr6, dr7, dr8, n1, a1, u2, b1, put, n2, am_ck_T, am_ck_t, am_cif_t, am_cif_f, am_cif_T, am_cif_F, am_then_s, am_push_s, am_push_n, true_and, and_true, true_or, or_true, Int.cast_ofNat_Int, am_02, am_22, not_true_eq_false, not_false_eq_true]
        · exact fr_tr (f79_fr fa) (fr_tr (fr_wr (by omega)) (fr_tr (fr_wr (by omega)) (fr_wr (by omega))))
        · have ez : sm T L (sp2 (vnp D.1) (vnl D.1) D.1.2 (Sum.inr t)) = Sum.inr (tb T L (t.1 + 1), (((vnp D.1 + 1, vnl D.1), D.1.2), nst t.2 (vnp D.1) (vnp D.1) 9)) := if_pos hs
          rw [ez]
          refine ⟨cG_k (cG_k (cG_k (b3 hs) (by omega) (by omega)) (by omega) (by omega)) (by omega) (by omega), am_wr_s, ?_, fun l l1 l2 => ⟨?_, ?_⟩, fun l k l1 l2 k1 k2 => ?_, fun a c c1 c2 c3 c4 => ?_⟩
          · exact (am_wr_i (by omega)).trans ((am_wr_k (by omega)).trans ((am_wr_k (by omega)).trans ((fa 8 (by omega) (by omega) 1).trans cd.2.1)))
          · exact (am_wr_k (by omega)).trans ((am_wr_k (by omega)).trans ((am_wr_k (by omega)).trans ((fa 11 (by omega) (by omega) l).trans (cd.2.2.1 l l1 l2).1)))
          · exact (am_wr_k (by omega)).trans ((am_wr_k (by omega)).trans ((am_wr_k (by omega)).trans ((fa 10 (by omega) (by omega) l).trans (cd.2.2.1 l l1 l2).2)))
          · exact (am_wr_k (by omega)).trans ((am_wr_k (by omega)).trans ((am_wr_k (by omega)).trans ((fa 12 (by omega) (by omega) _).trans (cd.2.2.2.1 l k l1 l2 k1 k2))))
          · have c2' : a < vnp D.1 + 1 := c2
            have c4' : c < vnp D.1 + 1 := c4
            show _ = nst t.2 (vnp D.1) (vnp D.1) 9 a c
            rw [am_wr_k (by omega)]
            unfold nst
            by_cases e : (a = vnp D.1 ∧ c = vnp D.1) ∨ (a = vnp D.1 ∧ c = vnp D.1)
            · rw [if_pos e]
              have : a * 8 + c = vnp D.1 * 8 + vnp D.1 := by omega
              rw [this, am_wr_s]
            · rw [if_neg e, am_wr_i (by omega), am_wr_i (by omega)]
              exact (b2 9 (by omega) _).trans (u4 a c c1 (by omega) c3 (by omega) (by omega))
      · rw [bo_f hs] at b1
        refine ⟨Mb, ?_, f79_fr fa, ?_⟩
        · simp (disch := omega) only [c_Re_readPerson, b_Re_readPerson_0, b_Re_readPerson_24, b_Re_readPerson_30, b_Re_readPerson_81, b_Re_readPerson_87, b_Re_readPerson_114, re0, re1, re2, re3, dr0, dr1, dr2, dr3, dr4, dr5, dr6, dr7, dr8, n1, a1, u2, b1, am_ck_T, am_ck_t, am_cif_t, am_cif_f, am_cif_T, am_cif_F, am_then_s, am_push_s, am_push_n, true_and, and_true, true_or, or_true, Int.cast_ofNat_Int, am_02, am_22, not_true_eq_false, not_false_eq_true]
        · have ez : sm T L (sp2 (vnp D.1) (vnl D.1) D.1.2 (Sum.inr t)) = Sum.inl (1, t.1) := if_neg hs
          rw [ez]; exact b4 hs
theorem k_among (hS : ly S) {l k x : Int} {F : Int → Int} (l1 : 0 ≤ l) (l2 : l < 6) (k2 : k ≤ 6) (hx : am_Ri x) (hF : ∀ a, 0 ≤ a → a < k → M 12 (l * 6 + a) = F a ∧ am_Ri (F a)) : ∀ (n : Nat) (j : Int), 0 ≤ j → j + n = k → am_R 39 3 [some (am_r 7), some (am_i l), some (am_i k), some (am_i x), some (am_i j)] [] S M = some (some (am_i (bo (vfi F x n j ≠ -1))), S, M) := by
  obtain ⟨re0, re1, re2, re3⟩ := hS.2.2.2.1
  obtain ⟨dr0, dr1, dr2, dr3, dr4, dr5, dr6, dr7, dr8⟩ := hS.2.2.1
  intro n
  induction n with
  | zero =>
    intro j j1 j2
    rw [b_Re_isAmongFirst_3, bo_f (show ¬ vfi F x 0 j ≠ -1 from fun z => z rfl)]
    simp (disch := omega) only [b_Re_isAmongFirst_36, re0, re1, re2, re3, dr0, dr1, dr2, dr3, dr4, dr5, dr6, dr7, dr8, am_ck_T, am_ck_t, am_cif_t, am_cif_f, am_cif_T, am_cif_F, am_then_s, am_push_s, am_push_n, true_and, and_true, true_or, or_true, Int.cast_ofNat_Int, am_02, am_22, not_true_eq_false, not_false_eq_true]
  | succ n ih =>
    intro j j1 j2
    have e := hF j j1 (by omega)
    have e1 := e.1
    have e2 := e.2
    have ih1 := ih (j + 1) (by omega) (by omega)
    rw [b_Re_isAmongFirst_3]
    unfold vfi
    by_cases h : F j = x
    · rw [if_pos h, bo_t (show j ≠ -1 by omega)]
      simp (disch := omega) only [b_Re_isAmongFirst_9, b_Re_isAmongFirst_28, re0, re1, re2, re3, dr0, dr1, dr2, dr3, dr4, dr5, dr6, dr7, dr8, e1, am_ck_T, am_ck_t, am_cif_t, am_cif_f, am_cif_T, am_cif_F, am_then_s, am_push_s, am_push_n, true_and, and_true, true_or, or_true, Int.cast_ofNat_Int, am_02, am_22, not_true_eq_false, not_false_eq_true]
    · rw [if_neg h]
      simp (disch := omega) only [b_Re_isAmongFirst_9, b_Re_isAmongFirst_30, re0, re1, re2, re3, dr0, dr1, dr2, dr3, dr4, dr5, dr6, dr7, dr8, e1, ih1, am_ck_T, am_ck_t, am_cif_t, am_cif_f, am_cif_T, am_cif_F, am_then_s, am_push_s, am_push_n, true_and, and_true, true_or, or_true, Int.cast_ofNat_Int, am_02, am_22, not_true_eq_false, not_false_eq_true]
theorem k_stops (hS : ly S) (hT : hTL T L) {l np : Int} (l1 : 0 ≤ l) (l2 : l < 6) (np1 : 0 ≤ np) (np2 : np ≤ 8) : ∀ (n : Nat) (k i : Int) (F : Int → Int) (M : am_M) (o3 : Option am_V), 0 ≤ k → k + n = 6 → cG T L i M → M 8 0 = np → (∀ a, 0 ≤ a → a < k → M 12 (l * 6 + a) = F a ∧ am_Ri (F a)) →
    (∃ f M1, ss T L (np - 1) n k i F = Sum.inl f ∧ am_R 38 2 [some (am_r 7), some (am_i l), some (am_i k), o3] [] S M = some (some (am_i (-1)), S, M1) ∧ cF T L f.1 f.2 M1 ∧ f12 l M M1) ∨
    (∃ t M1, ss T L (np - 1) n k i F = Sum.inr t ∧ am_R 38 2 [some (am_r 7), some (am_i l), some (am_i k), o3] [] S M = some (some (am_i t.1), S, M1) ∧ cG T L t.2.1 M1 ∧ (∀ a, 0 ≤ a → a < t.1 → M1 12 (l * 6 + a) = t.2.2 a) ∧ f12 l M M1) := by
  obtain ⟨re0, re1, re2, re3⟩ := hS.2.2.2.1
  obtain ⟨dr0, dr1, dr2, dr3, dr4, dr5, dr6, dr7, dr8⟩ := hS.2.2.1
  intro n
  induction n with
  | zero =>
    intro k i F M o3 k1 k2 g hn hF
    obtain rfl : k = 6 := by omega
    refine Or.inr ⟨(6, i, F), M, rfl, ?_, g, fun a a1 a2 => (hF a a1 a2).1, f12_rf⟩
    rw [b_Re_readStops_2]
    simp (disch := omega) only [b_Re_readStops_102, am_ck_T, am_ck_t, am_cif_t, am_cif_f, am_cif_T, am_cif_F, am_then_s, am_push_s, am_push_n, true_and, and_true, true_or, or_true, Int.cast_ofNat_Int, am_02, am_22, not_true_eq_false, not_false_eq_true]
  | succ n ih =>
    intro k i F M o3 k1 k2 g hn hF
    have uf : ss T L (np - 1) (n + 1) k i F = if 2 ≤ k ∧ ¬ (i < L ∧ T i = 44) then Sum.inr (k, i, F) else if 0 < k ∧ ¬ (i < L ∧ T i = 44) then Sum.inl (1, i) else if tn T L (tj T L k i) (np - 1) ≠ 0 then Sum.inl (tn T L (tj T L k i) (np - 1), tj T L k i) else if vfi F (tw T L (tj T L k i)) k.toNat 0 ≠ -1 then Sum.inl (4, tj T L k i) else ss T L (np - 1) n (k + 1) (tb T L (te T L (tj T L k i))) (fun a => if a = k then tw T L (tj T L k i) else F a) := rfl
    have num : ∀ (M : am_M), cG T L (tj T L k i) M → M 8 0 = np → (∀ a, 0 ≤ a → a < k → M 12 (l * 6 + a) = F a ∧ am_Ri (F a)) → ¬ (2 ≤ k ∧ ¬ (i < L ∧ T i = 44)) → ¬ (0 < k ∧ ¬ (i < L ∧ T i = 44)) →
      (∃ f M1, ss T L (np - 1) (n + 1) k i F = Sum.inl f ∧ am_R 38 39 [some (am_r 7), some (am_i l), some (am_i k), o3] [] S M = some (some (am_i (-1)), S, M1) ∧ cF T L f.1 f.2 M1 ∧ f12 l M M1) ∨
      (∃ t M1, ss T L (np - 1) (n + 1) k i F = Sum.inr t ∧ am_R 38 39 [some (am_r 7), some (am_i l), some (am_i k), o3] [] S M = some (some (am_i t.1), S, M1) ∧ cG T L t.2.1 M1 ∧ (∀ a, 0 ≤ a → a < t.1 → M1 12 (l * 6 + a) = t.2.2 a) ∧ f12 l M M1) := by
      intro M g hn hF hc0 hc
      rw [uf, if_neg hc0, if_neg hc]
      obtain ⟨M1, v, d1, d2, d3, d4⟩ := k_number hS hT g (show am_Ri (np - 1) from ⟨by omega, by omega⟩)
      by_cases h0 : tn T L (tj T L k i) (np - 1) = 0
      · obtain ⟨e1, e2, e3⟩ := d3 h0
        rw [if_neg (fun z => z h0)]
        have t0 := tn_0 h0
        have rv := tw_rng g.1.2.2.2.2 t0.2.1
        have hF1 : ∀ a, 0 ≤ a → a < k → M1 12 (l * 6 + a) = F a ∧ am_Ri (F a) := fun a a1 a2 => ⟨(d2 12 (by omega) _).trans (hF a a1 a2).1, (hF a a1 a2).2⟩
        have am0 := k_among (x := tw T L (tj T L k i)) hS l1 l2 (show k ≤ 6 by omega) ⟨by omega, by omega⟩ hF1 k.toNat 0 (by omega) (by omega)
        have am1 : am_call 39 [am_r 7, am_i l, am_i k, am_i (tw T L (tj T L k i))] S M1 = some (some (am_i (bo (vfi F (tw T L (tj T L k i)) k.toNat 0 ≠ -1))), S, M1) := by
          rw [c_Re_isAmongFirst, b_Re_isAmongFirst_0]; exact am0
        rw [e1] at d1
        by_cases hv : vfi F (tw T L (tj T L k i)) k.toNat 0 ≠ -1
        · rw [if_pos hv]
          rw [bo_t hv] at am1
          have e4 := k_mark (M := M1) hS 4 (tj T L k i)
          refine Or.inl ⟨(4, tj T L k i), am_wr (am_wr M1 7 4 4) 7 3 (tj T L k i), rfl, ?_, cF_mark e2.1, f12_7 (fr_tr d2 (fr_tr (fr_wr (by omega)) (fr_wr (by omega))))⟩
          simp (disch := omega) only [b_Re_readStops_39, b_Re_readStops_52, b_Re_readStops_60, b_Re_readStops_67, b_Re_readStops_70, b_Re_readStops_79, re0, re1, re2, re3, dr0, dr1, dr2, dr3, dr4, dr5, dr6, dr7, dr8, hn, d1, am1, e3, e4, am_ck_T, am_ck_t, am_cif_t, am_cif_f, am_cif_T, am_cif_F, am_then_s, am_push_s, am_push_n, true_and, and_true, true_or, or_true, Int.cast_ofNat_Int, am_02, am_22, not_true_eq_false, not_false_eq_true]
        · rw [if_neg hv]
          rw [bo_f hv] at am1
          have fa : f12 l M (am_wr M1 12 (l * 6 + k) (tw T L (tj T L k i))) := f12_tr (f12_7 d2) ⟨fun c _ c2 j => am_wr_k c2, fun j hj => am_wr_i (by omega)⟩
          have g2 : cG T L (tb T L (te T L (tj T L k i))) (am_wr M1 12 (l * 6 + k) (tw T L (tj T L k i))) := cG_k e2 (by omega) (by omega)
          rcases ih (k + 1) (tb T L (te T L (tj T L k i))) (fun a => if a = k then tw T L (tj T L k i) else F a) _ (some (am_i (tw T L (tj T L k i)))) (by omega) (by omega) g2 ((fa.1 8 (by omega) (by omega) 0).trans hn) (fun a a1 a2 => by
            show am_wr M1 12 (l * 6 + k) (tw T L (tj T L k i)) 12 (l * 6 + a) = (if a = k then tw T L (tj T L k i) else F a) ∧ am_Ri (if a = k then tw T L (tj T L k i) else F a)
            by_cases e : a = k
            · rw [if_pos e, e, am_wr_s]; exact ⟨rfl, by omega, by omega⟩
            · rw [if_neg e, am_wr_i (by omega)]; exact hF1 a a1 (by omega)) with ⟨f, M2, u1, u2, u3, u4⟩ | ⟨t, M2, u1, u2, u3, u4, u5⟩
          · refine Or.inl ⟨f, M2, u1, ?_, u3, f12_tr fa u4⟩
            simp (disch := omega) only [b_Re_readStops_39, b_Re_readStops_52, b_Re_readStops_60, b_Re_readStops_67, b_Re_readStops_81, re0, re1, re2, re3, dr0, dr1, dr2, dr3, dr4, dr5, dr6, dr7, dr8, hn, d1, am1, u2, am_ck_T, am_ck_t, am_cif_t, am_cif_f, am_cif_T, am_cif_F, am_then_s, am_push_s, am_push_n, true_and, and_true, true_or, or_true, Int.cast_ofNat_Int, am_02, am_22, not_true_eq_false, not_false_eq_true]
          · refine Or.inr ⟨t, M2, u1, ?_, u3, u4, f12_tr fa u5⟩
            simp (disch := omega) only [b_Re_readStops_39, b_Re_readStops_52, b_Re_readStops_60, b_Re_readStops_67, b_Re_readStops_81, re0, re1, re2, re3, dr0, dr1, dr2, dr3, dr4, dr5, dr6, dr7, dr8, hn, d1, am1, u2, am_ck_T, am_ck_t, am_cif_t, am_cif_f, am_cif_T, am_cif_F, am_then_s, am_push_s, am_push_n, true_and, and_true, true_or, or_true, Int.cast_ofNat_Int, am_02, am_22, not_true_eq_false, not_false_eq_true]
      · obtain ⟨e1, e2⟩ := d4 h0
        rw [if_pos h0]
        refine Or.inl ⟨_, M1, rfl, ?_, e2, f12_7 d2⟩
        rw [e1] at d1
        simp (disch := omega) only [b_Re_readStops_39, b_Re_readStops_52, b_Re_readStops_58, re0, re1, re2, re3, dr0, dr1, dr2, dr3, dr4, dr5, dr6, dr7, dr8, hn, d1, am_ck_T, am_ck_t, am_cif_t, am_cif_f, am_cif_T, am_cif_F, am_then_s, am_push_s, am_push_n, true_and, and_true, true_or, or_true, Int.cast_ofNat_Int, am_02, am_22, not_true_eq_false, not_false_eq_true]
    have nx := k_isNext hS hT g.1 (show am_Ri 44 from ⟨by omega, by omega⟩)
    rw [b_Re_readStops_2]
    by_cases hq : 0 < k
    · obtain ⟨M1, d1, d2, d3, d4⟩ := k_take hS hT g (show am_Ri 44 from ⟨by omega, by omega⟩)
      by_cases hc : i < L ∧ T i = 44
      · rw [bo_t hc] at d1 nx
        have ej : tj T L k i = tb T L (i + 1) := by unfold tj; rw [if_pos hq]
        have g1 : cG T L (tj T L k i) M1 := by rw [ej]; exact d3 hc
        have hF1 : ∀ a, 0 ≤ a → a < k → M1 12 (l * 6 + a) = F a ∧ am_Ri (F a) := fun a a1 a2 => ⟨(d2 12 (by omega) _).trans (hF a a1 a2).1, (hF a a1 a2).2⟩
        rcases num M1 g1 ((d2 8 (by omega) 0).trans hn) hF1 (fun z => z.2 hc) (fun z => z.2 hc) with ⟨f, M2, u1, u2, u3, u4⟩ | ⟨t, M2, u1, u2, u3, u4, u5⟩
        · refine Or.inl ⟨f, M2, u1, ?_, u3, f12_tr (f12_7 d2) u4⟩
          by_cases h2 : k < 2
          · simp (disch := omega) only [b_Re_readStops_8, b_Re_readStops_24, b_Re_readStops_28, b_Re_readStops_34, re0, re1, re2, re3, dr0, dr1, dr2, dr3, dr4, dr5, dr6, dr7, dr8, d1, u2, am_ck_T, am_ck_t, am_cif_t, am_cif_f, am_cif_T, am_cif_F, am_then_s, am_push_s, am_push_n, true_and, and_true, true_or, or_true, Int.cast_ofNat_Int, am_02, am_22, not_true_eq_false, not_false_eq_true]
          · simp (disch := omega) only [b_Re_readStops_8, b_Re_readStops_13, b_Re_readStops_19, b_Re_readStops_24, b_Re_readStops_28, b_Re_readStops_34, re0, re1, re2, re3, dr0, dr1, dr2, dr3, dr4, dr5, dr6, dr7, dr8, nx, d1, u2, am_ck_T, am_ck_t, am_cif_t, am_cif_f, am_cif_T, am_cif_F, am_then_s, am_push_s, am_push_n, true_and, and_true, true_or, or_true, Int.cast_ofNat_Int, am_02, am_22, not_true_eq_false, not_false_eq_true]
        · refine Or.inr ⟨t, M2, u1, ?_, u3, u4, f12_tr (f12_7 d2) u5⟩
          by_cases h2 : k < 2
          · simp (disch := omega) only [b_Re_readStops_8, b_Re_readStops_24, b_Re_readStops_28, b_Re_readStops_34, re0, re1, re2, re3, dr0, dr1, dr2, dr3, dr4, dr5, dr6, dr7, dr8, d1, u2, am_ck_T, am_ck_t, am_cif_t, am_cif_f, am_cif_T, am_cif_F, am_then_s, am_push_s, am_push_n, true_and, and_true, true_or, or_true, Int.cast_ofNat_Int, am_02, am_22, not_true_eq_false, not_false_eq_true]
          · simp (disch := omega) only [b_Re_readStops_8, b_Re_readStops_13, b_Re_readStops_19, b_Re_readStops_24, b_Re_readStops_28, b_Re_readStops_34, re0, re1, re2, re3, dr0, dr1, dr2, dr3, dr4, dr5, dr6, dr7, dr8, nx, d1, u2, am_ck_T, am_ck_t, am_cif_t, am_cif_f, am_cif_T, am_cif_F, am_then_s, am_push_s, am_push_n, true_and, and_true, true_or, or_true, Int.cast_ofNat_Int, am_02, am_22, not_true_eq_false, not_false_eq_true]
      · rw [bo_f hc] at d1 nx
        by_cases h2 : k < 2
        · refine Or.inl ⟨(1, i), M1, by rw [uf, if_neg (fun z => by omega), if_pos ⟨hq, hc⟩], ?_, d4 hc, f12_7 d2⟩
          simp (disch := omega) only [b_Re_readStops_8, b_Re_readStops_24, b_Re_readStops_28, b_Re_readStops_34, b_Re_readStops_37, re0, re1, re2, re3, dr0, dr1, dr2, dr3, dr4, dr5, dr6, dr7, dr8, d1, am_ck_T, am_ck_t, am_cif_t, am_cif_f, am_cif_T, am_cif_F, am_then_s, am_push_s, am_push_n, true_and, and_true, true_or, or_true, Int.cast_ofNat_Int, am_02, am_22, not_true_eq_false, not_false_eq_true]
        · refine Or.inr ⟨(k, i, F), M, by rw [uf, if_pos ⟨by omega, hc⟩], ?_, g, fun a a1 a2 => (hF a a1 a2).1, f12_rf⟩
          simp (disch := omega) only [b_Re_readStops_8, b_Re_readStops_13, b_Re_readStops_19, b_Re_readStops_22, re0, re1, re2, re3, dr0, dr1, dr2, dr3, dr4, dr5, dr6, dr7, dr8, nx, am_ck_T, am_ck_t, am_cif_t, am_cif_f, am_cif_T, am_cif_F, am_then_s, am_push_s, am_push_n, true_and, and_true, true_or, or_true, Int.cast_ofNat_Int, am_02, am_22, not_true_eq_false, not_false_eq_true]
    · have ej : tj T L k i = i := by unfold tj; rw [if_neg hq]
      have g1 : cG T L (tj T L k i) M := by rw [ej]; exact g
      rcases num M g1 hn hF (fun z => by omega) (fun z => hq z.1) with ⟨f, M2, u1, u2, u3, u4⟩ | ⟨t, M2, u1, u2, u3, u4, u5⟩
      · refine Or.inl ⟨f, M2, u1, ?_, u3, u4⟩
        simp (disch := omega) only [b_Re_readStops_8, b_Re_readStops_24, re0, re1, re2, re3, dr0, dr1, dr2, dr3, dr4, dr5, dr6, dr7, dr8, u2, am_ck_T, am_ck_t, am_cif_t, am_cif_f, am_cif_T, am_cif_F, am_then_s, am_push_s, am_push_n, true_and, and_true, true_or, or_true, Int.cast_ofNat_Int, am_02, am_22, not_true_eq_false, not_false_eq_true]
      · refine Or.inr ⟨t, M2, u1, ?_, u3, u4, u5⟩
        simp (disch := omega) only [b_Re_readStops_8, b_Re_readStops_24, re0, re1, re2, re3, dr0, dr1, dr2, dr3, dr4, dr5, dr6, dr7, dr8, u2, am_ck_T, am_ck_t, am_cif_t, am_cif_f, am_cif_T, am_cif_F, am_then_s, am_push_s, am_push_n, true_and, and_true, true_or, or_true, Int.cast_ofNat_Int, am_02, am_22, not_true_eq_false, not_false_eq_true]
end READ2
