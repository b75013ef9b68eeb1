/-! the law's loop -/
theorem an_31 (x : Int) : 0 ≤ am_and x 31 ∧ am_and x 31 ≤ 31 := by
  unfold am_and
  obtain ⟨j, hj, e⟩ := pk_andE (Int32.ofInt x) (m := Int32.ofInt 31) 5 (by decide)
  rw [e]
  have key : ∀ j : Fin 32, 0 ≤ (nI j.val).toInt ∧ (nI j.val).toInt ≤ 31 := by decide +kernel
  exact key ⟨j, hj⟩
section LAW
variable {S : am_S} {M : am_M} {X : vX} {B : Int}
/-- one call of each -/
theorem l_one {zc zm : Nat} {as : List am_V} (h : Pr S zc zm as) (h0 : 0 ≤ B) (h1 : B ≤ 1000000) (ok : okX B X) (c : CX X M) (m : MX X M) : ∃ r X' M1 M2, am_Ri r ∧ okX (B + 1000) X' ∧ am_call zc (am_r 1 :: as) S M = some (some (am_i r), S, M1) ∧ am_call zm (am_r 164 :: as) S M1 = some (some (am_i r), S, M2) ∧ CX X' M2 ∧ MX X' M2 := by
  obtain ⟨r, X', r1, ok', cc, mm⟩ := h B X h0 h1 ok
  obtain ⟨M1, a1, a2, a3⟩ := cc M c
  obtain ⟨M2, b1, b2, b3⟩ := mm M1 (MX_fr ok.1 a3 m)
  exact ⟨r, X', M1, M2, r1, ok', a1, b1, CX_fr b3 a2, b2⟩
theorem l_loop (hS : ly S) (hL : am_sn S ≤ 256) (hx : ∀ j, am_Ri (am_sx S j)) : ∀ (n : Nat) (i B : Int) (X : vX) (M : am_M), 0 ≤ i → i ≤ 256 → (am_sn S : Int) - i ≤ 4 * (n : Int) → 0 ≤ B → B + 1000 * (n : Int) ≤ 900000 → okX B X → CX X M → MX X M → ∃ M1, am_R 179 18 [some am_q, some (am_r 1), some (am_r 164), some (am_i i)] [] S M = some (some (am_i 1), S, M1) := by
  obtain ⟨tp0, tp1, tp2, tp3, tp4, tp5, tp6, tp7, tp8, tp9⟩ := hS.1
  obtain ⟨mo0, ⟨mr0, mr1, mr2, mr3, mr4, mr5, mr6, mr7, mr8, mr9, mr10, mr11⟩, mk0, mk1, mk2, mk3, mk4, mk5, mk6, mk7, mk8, mk9, mk10, mk11⟩ := hS.2.2.2.2.2.2.2.2.2.2
  intro n
  induction n with
  | zero =>
    intro i B X M i1 i2 hn h0 h1 ok c m
    by_cases hi : (am_sn S : Int) - 4 < i
    · refine ⟨M, ?_⟩
      rw [b_La_law_18]
      simp (disch := omega) only [b_La_law_951, am_ck_T, am_ck_t, am_cif_t, am_cif_f, am_cif_T, am_cif_F, am_then_s, am_push_s, am_push_n, true_and, and_true, true_or, or_true, Int.cast_ofNat_Int, am_02, am_22, not_true_eq_false, not_false_eq_true]
    · omega
  | succ n ih =>
    intro i B X M i1 i2 hn h0 h1 ok c m
    by_cases hi : (am_sn S : Int) - 4 < i
    · refine ⟨M, ?_⟩
      rw [b_La_law_18]
      simp (disch := omega) only [b_La_law_951, am_ck_T, am_ck_t, am_cif_t, am_cif_f, am_cif_T, am_cif_F, am_then_s, am_push_s, am_push_n, true_and, and_true, true_or, or_true, Int.cast_ofNat_Int, am_02, am_22, not_true_eq_false, not_false_eq_true]
    · have rg := an_31 (am_sx S i)
      have x1 := hx (i + 1)
      have x2 := hx (i + 2)
      have x3 := hx (i + 3)
      have hB : B ≤ 1000000 := by omega
      rw [b_La_law_18]
      by_cases hc0 : am_and (am_sx S i) 31 = 0
      · have es : am_sw 32 913 0 30 #[140, 163, 176, 189, 212, 245, 268, 301, 344, 377, 400, 433, 456, 479, 502, 545, 568, 601, 644, 667, 680, 693, 726, 759, 772, 785, 818, 831, 844, 867, 890] (am_and (am_sx S i) 31) = 172 := by rw [hc0]; rfl
        obtain ⟨r, X', M1, M2, r1, ok', d1, d2, c', m'⟩ := l_one (p_feed hS x1) h0 hB ok c m
        obtain ⟨M3, d3⟩ := ih (i + 4) (B + 1000) X' M2 (by omega) (by omega) (by omega) (by omega) (by omega) ok' c' m'
        refine ⟨M3, ?_⟩
        simp (disch := omega) only [b_La_law_26, es, b_La_law_172, b_La_law_181, b_La_law_190, b_La_law_945, tp0, tp1, tp2, tp3, tp4, tp5, tp6, tp7, tp8, tp9, mo0, mr0, mr1, mr2, mr3, mr4, mr5, mr6, mr7, mr8, mr9, mr10, mr11, mk0, mk1, mk2, mk3, mk4, mk5, mk6, mk7, mk8, mk9, mk10, mk11, d1, d2, d3, am_ck_T, am_ck_t, am_cif_t, am_cif_f, am_cif_T, am_cif_F, am_then_s, am_push_s, am_push_n, true_and, and_true, true_or, or_true, Int.cast_ofNat_Int, am_02, am_22, not_true_eq_false, not_false_eq_true]
      by_cases hc1 : am_and (am_sx S i) 31 = 1
      · have es : am_sw 32 913 0 30 #[140, 163, 176, 189, 212, 245, 268, 301, 344, 377, 400, 433, 456, 479, 502, 545, 568, 601, 644, 667, 680, 693, 726, 759, 772, 785, 818, 831, 844, 867, 890] (am_and (am_sx S i) 31) = 195 := by rw [hc1]; rfl
        obtain ⟨r, X', M1, M2, r1, ok', d1, d2, c', m'⟩ := l_one (p_town hS) h0 hB ok c m
        obtain ⟨M3, d3⟩ := ih (i + 4) (B + 1000) X' M2 (by omega) (by omega) (by omega) (by omega) (by omega) ok' c' m'
        refine ⟨M3, ?_⟩
        simp (disch := omega) only [b_La_law_26, es, b_La_law_195, b_La_law_199, b_La_law_203, b_La_law_945, tp0, tp1, tp2, tp3, tp4, tp5, tp6, tp7, tp8, tp9, mo0, mr0, mr1, mr2, mr3, mr4, mr5, mr6, mr7, mr8, mr9, mr10, mr11, mk0, mk1, mk2, mk3, mk4, mk5, mk6, mk7, mk8, mk9, mk10, mk11, d1, d2, d3, am_ck_T, am_ck_t, am_cif_t, am_cif_f, am_cif_T, am_cif_F, am_then_s, am_push_s, am_push_n, true_and, and_true, true_or, or_true, Int.cast_ofNat_Int, am_02, am_22, not_true_eq_false, not_false_eq_true]
      by_cases hc2 : am_and (am_sx S i) 31 = 2
      · have es : am_sw 32 913 0 30 #[140, 163, 176, 189, 212, 245, 268, 301, 344, 377, 400, 433, 456, 479, 502, 545, 568, 601, 644, 667, 680, 693, 726, 759, 772, 785, 818, 831, 844, 867, 890] (am_and (am_sx S i) 31) = 208 := by rw [hc2]; rfl
        obtain ⟨r, X', M1, M2, r1, ok', d1, d2, c', m'⟩ := l_one (p_fault hS) h0 hB ok c m
        obtain ⟨M3, d3⟩ := ih (i + 4) (B + 1000) X' M2 (by omega) (by omega) (by omega) (by omega) (by omega) ok' c' m'
        refine ⟨M3, ?_⟩
        simp (disch := omega) only [b_La_law_26, es, b_La_law_208, b_La_law_212, b_La_law_216, b_La_law_945, tp0, tp1, tp2, tp3, tp4, tp5, tp6, tp7, tp8, tp9, mo0, mr0, mr1, mr2, mr3, mr4, mr5, mr6, mr7, mr8, mr9, mr10, mr11, mk0, mk1, mk2, mk3, mk4, mk5, mk6, mk7, mk8, mk9, mk10, mk11, d1, d2, d3, am_ck_T, am_ck_t, am_cif_t, am_cif_f, am_cif_T, am_cif_F, am_then_s, am_push_s, am_push_n, true_and, and_true, true_or, or_true, Int.cast_ofNat_Int, am_02, am_22, not_true_eq_false, not_false_eq_true]
      by_cases hc3 : am_and (am_sx S i) 31 = 3
      · have es : am_sw 32 913 0 30 #[140, 163, 176, 189, 212, 245, 268, 301, 344, 377, 400, 433, 456, 479, 502, 545, 568, 601, 644, 667, 680, 693, 726, 759, 772, 785, 818, 831, 844, 867, 890] (am_and (am_sx S i) 31) = 221 := by rw [hc3]; rfl
        obtain ⟨r, X', M1, M2, r1, ok', d1, d2, c', m'⟩ := l_one (p_told hS x1) h0 hB ok c m
        obtain ⟨M3, d3⟩ := ih (i + 4) (B + 1000) X' M2 (by omega) (by omega) (by omega) (by omega) (by omega) ok' c' m'
        refine ⟨M3, ?_⟩
        simp (disch := omega) only [b_La_law_26, es, b_La_law_221, b_La_law_230, b_La_law_239, b_La_law_945, tp0, tp1, tp2, tp3, tp4, tp5, tp6, tp7, tp8, tp9, mo0, mr0, mr1, mr2, mr3, mr4, mr5, mr6, mr7, mr8, mr9, mr10, mr11, mk0, mk1, mk2, mk3, mk4, mk5, mk6, mk7, mk8, mk9, mk10, mk11, d1, d2, d3, am_ck_T, am_ck_t, am_cif_t, am_cif_f, am_cif_T, am_cif_F, am_then_s, am_push_s, am_push_n, true_and, and_true, true_or, or_true, Int.cast_ofNat_Int, am_02, am_22, not_true_eq_false, not_false_eq_true]
      by_cases hc4 : am_and (am_sx S i) 31 = 4
      · have es : am_sw 32 913 0 30 #[140, 163, 176, 189, 212, 245, 268, 301, 344, 377, 400, 433, 456, 479, 502, 545, 568, 601, 644, 667, 680, 693, 726, 759, 772, 785, 818, 831, 844, 867, 890] (am_and (am_sx S i) 31) = 244 := by rw [hc4]; rfl
        obtain ⟨r, X', M1, M2, r1, ok', d1, d2, c', m'⟩ := l_one (p_near hS x1 x2) h0 hB ok c m
        obtain ⟨M3, d3⟩ := ih (i + 4) (B + 1000) X' M2 (by omega) (by omega) (by omega) (by omega) (by omega) ok' c' m'
        refine ⟨M3, ?_⟩
        simp (disch := omega) only [b_La_law_26, es, b_La_law_244, b_La_law_258, b_La_law_272, b_La_law_945, tp0, tp1, tp2, tp3, tp4, tp5, tp6, tp7, tp8, tp9, mo0, mr0, mr1, mr2, mr3, mr4, mr5, mr6, mr7, mr8, mr9, mr10, mr11, mk0, mk1, mk2, mk3, mk4, mk5, mk6, mk7, mk8, mk9, mk10, mk11, d1, d2, d3, am_ck_T, am_ck_t, am_cif_t, am_cif_f, am_cif_T, am_cif_F, am_then_s, am_push_s, am_push_n, true_and, and_true, true_or, or_true, Int.cast_ofNat_Int, am_02, am_22, not_true_eq_false, not_false_eq_true]
      by_cases hc5 : am_and (am_sx S i) 31 = 5
      · have es : am_sw 32 913 0 30 #[140, 163, 176, 189, 212, 245, 268, 301, 344, 377, 400, 433, 456, 479, 502, 545, 568, 601, 644, 667, 680, 693, 726, 759, 772, 785, 818, 831, 844, 867, 890] (am_and (am_sx S i) 31) = 277 := by rw [hc5]; rfl
        obtain ⟨r, X', M1, M2, r1, ok', d1, d2, c', m'⟩ := l_one (p_at hS x1) h0 hB ok c m
        obtain ⟨M3, d3⟩ := ih (i + 4) (B + 1000) X' M2 (by omega) (by omega) (by omega) (by omega) (by omega) ok' c' m'
        refine ⟨M3, ?_⟩
        simp (disch := omega) only [b_La_law_26, es, b_La_law_277, b_La_law_286, b_La_law_295, b_La_law_945, tp0, tp1, tp2, tp3, tp4, tp5, tp6, tp7, tp8, tp9, mo0, mr0, mr1, mr2, mr3, mr4, mr5, mr6, mr7, mr8, mr9, mr10, mr11, mk0, mk1, mk2, mk3, mk4, mk5, mk6, mk7, mk8, mk9, mk10, mk11, d1, d2, d3, am_ck_T, am_ck_t, am_cif_t, am_cif_f, am_cif_T, am_cif_F, am_then_s, am_push_s, am_push_n, true_and, and_true, true_or, or_true, Int.cast_ofNat_Int, am_02, am_22, not_true_eq_false, not_false_eq_true]
      by_cases hc6 : am_and (am_sx S i) 31 = 6
      · have es : am_sw 32 913 0 30 #[140, 163, 176, 189, 212, 245, 268, 301, 344, 377, 400, 433, 456, 479, 502, 545, 568, 601, 644, 667, 680, 693, 726, 759, 772, 785, 818, 831, 844, 867, 890] (am_and (am_sx S i) 31) = 300 := by rw [hc6]; rfl
        obtain ⟨r, X', M1, M2, r1, ok', d1, d2, c', m'⟩ := l_one (p_line hS x1 x2) h0 hB ok c m
        obtain ⟨M3, d3⟩ := ih (i + 4) (B + 1000) X' M2 (by omega) (by omega) (by omega) (by omega) (by omega) ok' c' m'
        refine ⟨M3, ?_⟩
        simp (disch := omega) only [b_La_law_26, es, b_La_law_300, b_La_law_314, b_La_law_328, b_La_law_945, tp0, tp1, tp2, tp3, tp4, tp5, tp6, tp7, tp8, tp9, mo0, mr0, mr1, mr2, mr3, mr4, mr5, mr6, mr7, mr8, mr9, mr10, mr11, mk0, mk1, mk2, mk3, mk4, mk5, mk6, mk7, mk8, mk9, mk10, mk11, d1, d2, d3, am_ck_T, am_ck_t, am_cif_t, am_cif_f, am_cif_T, am_cif_F, am_then_s, am_push_s, am_push_n, true_and, and_true, true_or, or_true, Int.cast_ofNat_Int, am_02, am_22, not_true_eq_false, not_false_eq_true]
      by_cases hc7 : am_and (am_sx S i) 31 = 7
      · have es : am_sw 32 913 0 30 #[140, 163, 176, 189, 212, 245, 268, 301, 344, 377, 400, 433, 456, 479, 502, 545, 568, 601, 644, 667, 680, 693, 726, 759, 772, 785, 818, 831, 844, 867, 890] (am_and (am_sx S i) 31) = 333 := by rw [hc7]; rfl
        obtain ⟨r, X', M1, M2, r1, ok', d1, d2, c', m'⟩ := l_one (p_ride hS x1 x2 x3) h0 hB ok c m
        obtain ⟨M3, d3⟩ := ih (i + 4) (B + 1000) X' M2 (by omega) (by omega) (by omega) (by omega) (by omega) ok' c' m'
        refine ⟨M3, ?_⟩
        simp (disch := omega) only [b_La_law_26, es, b_La_law_333, b_La_law_352, b_La_law_371, b_La_law_945, tp0, tp1, tp2, tp3, tp4, tp5, tp6, tp7, tp8, tp9, mo0, mr0, mr1, mr2, mr3, mr4, mr5, mr6, mr7, mr8, mr9, mr10, mr11, mk0, mk1, mk2, mk3, mk4, mk5, mk6, mk7, mk8, mk9, mk10, mk11, d1, d2, d3, am_ck_T, am_ck_t, am_cif_t, am_cif_f, am_cif_T, am_cif_F, am_then_s, am_push_s, am_push_n, true_and, and_true, true_or, or_true, Int.cast_ofNat_Int, am_02, am_22, not_true_eq_false, not_false_eq_true]
      by_cases hc8 : am_and (am_sx S i) 31 = 8
      · have es : am_sw 32 913 0 30 #[140, 163, 176, 189, 212, 245, 268, 301, 344, 377, 400, 433, 456, 479, 502, 545, 568, 601, 644, 667, 680, 693, 726, 759, 772, 785, 818, 831, 844, 867, 890] (am_and (am_sx S i) 31) = 376 := by rw [hc8]; rfl
        obtain ⟨r, X', M1, M2, r1, ok', d1, d2, c', m'⟩ := l_one (p_sleep hS x1 x2) h0 hB ok c m
        obtain ⟨M3, d3⟩ := ih (i + 4) (B + 1000) X' M2 (by omega) (by omega) (by omega) (by omega) (by omega) ok' c' m'
        refine ⟨M3, ?_⟩
        simp (disch := omega) only [b_La_law_26, es, b_La_law_376, b_La_law_390, b_La_law_404, b_La_law_945, tp0, tp1, tp2, tp3, tp4, tp5, tp6, tp7, tp8, tp9, mo0, mr0, mr1, mr2, mr3, mr4, mr5, mr6, mr7, mr8, mr9, mr10, mr11, mk0, mk1, mk2, mk3, mk4, mk5, mk6, mk7, mk8, mk9, mk10, mk11, d1, d2, d3, am_ck_T, am_ck_t, am_cif_t, am_cif_f, am_cif_T, am_cif_F, am_then_s, am_push_s, am_push_n, true_and, and_true, true_or, or_true, Int.cast_ofNat_Int, am_02, am_22, not_true_eq_false, not_false_eq_true]
      by_cases hc9 : am_and (am_sx S i) 31 = 9
      · have es : am_sw 32 913 0 30 #[140, 163, 176, 189, 212, 245, 268, 301, 344, 377, 400, 433, 456, 479, 502, 545, 568, 601, 644, 667, 680, 693, 726, 759, 772, 785, 818, 831, 844, 867, 890] (am_and (am_sx S i) 31) = 409 := by rw [hc9]; rfl
        obtain ⟨r, X', M1, M2, r1, ok', d1, d2, c', m'⟩ := l_one (p_morning hS x1) h0 hB ok c m
        obtain ⟨M3, d3⟩ := ih (i + 4) (B + 1000) X' M2 (by omega) (by omega) (by omega) (by omega) (by omega) ok' c' m'
        refine ⟨M3, ?_⟩
        simp (disch := omega) only [b_La_law_26, es, b_La_law_409, b_La_law_418, b_La_law_427, b_La_law_945, tp0, tp1, tp2, tp3, tp4, tp5, tp6, tp7, tp8, tp9, mo0, mr0, mr1, mr2, mr3, mr4, mr5, mr6, mr7, mr8, mr9, mr10, mr11, mk0, mk1, mk2, mk3, mk4, mk5, mk6, mk7, mk8, mk9, mk10, mk11, d1, d2, d3, am_ck_T, am_ck_t, am_cif_t, am_cif_f, am_cif_T, am_cif_F, am_then_s, am_push_s, am_push_n, true_and, and_true, true_or, or_true, Int.cast_ofNat_Int, am_02, am_22, not_true_eq_false, not_false_eq_true]
      by_cases hc10 : am_and (am_sx S i) 31 = 10
      · have es : am_sw 32 913 0 30 #[140, 163, 176, 189, 212, 245, 268, 301, 344, 377, 400, 433, 456, 479, 502, 545, 568, 601, 644, 667, 680, 693, 726, 759, 772, 785, 818, 831, 844, 867, 890] (am_and (am_sx S i) 31) = 432 := by rw [hc10]; rfl
        obtain ⟨r, X', M1, M2, r1, ok', d1, d2, c', m'⟩ := l_one (p_end hS x1 x2) h0 hB ok c m
        obtain ⟨M3, d3⟩ := ih (i + 4) (B + 1000) X' M2 (by omega) (by omega) (by omega) (by omega) (by omega) ok' c' m'
        refine ⟨M3, ?_⟩
        simp (disch := omega) only [b_La_law_26, es, b_La_law_432, b_La_law_446, b_La_law_460, b_La_law_945, tp0, tp1, tp2, tp3, tp4, tp5, tp6, tp7, tp8, tp9, mo0, mr0, mr1, mr2, mr3, mr4, mr5, mr6, mr7, mr8, mr9, mr10, mr11, mk0, mk1, mk2, mk3, mk4, mk5, mk6, mk7, mk8, mk9, mk10, mk11, d1, d2, d3, am_ck_T, am_ck_t, am_cif_t, am_cif_f, am_cif_T, am_cif_F, am_then_s, am_push_s, am_push_n, true_and, and_true, true_or, or_true, Int.cast_ofNat_Int, am_02, am_22, not_true_eq_false, not_false_eq_true]
      by_cases hc11 : am_and (am_sx S i) 31 = 11
      · have es : am_sw 32 913 0 30 #[140, 163, 176, 189, 212, 245, 268, 301, 344, 377, 400, 433, 456, 479, 502, 545, 568, 601, 644, 667, 680, 693, 726, 759, 772, 785, 818, 831, 844, 867, 890] (am_and (am_sx S i) 31) = 465 := by rw [hc11]; rfl
        obtain ⟨r, X', M1, M2, r1, ok', d1, d2, c', m'⟩ := l_one (p_die hS x1) h0 hB ok c m
        obtain ⟨M3, d3⟩ := ih (i + 4) (B + 1000) X' M2 (by omega) (by omega) (by omega) (by omega) (by omega) ok' c' m'
        refine ⟨M3, ?_⟩
        simp (disch := omega) only [b_La_law_26, es, b_La_law_465, b_La_law_474, b_La_law_483, b_La_law_945, tp0, tp1, tp2, tp3, tp4, tp5, tp6, tp7, tp8, tp9, mo0, mr0, mr1, mr2, mr3, mr4, mr5, mr6, mr7, mr8, mr9, mr10, mr11, mk0, mk1, mk2, mk3, mk4, mk5, mk6, mk7, mk8, mk9, mk10, mk11, d1, d2, d3, am_ck_T, am_ck_t, am_cif_t, am_cif_f, am_cif_T, am_cif_F, am_then_s, am_push_s, am_push_n, true_and, and_true, true_or, or_true, Int.cast_ofNat_Int, am_02, am_22, not_true_eq_false, not_false_eq_true]
      by_cases hc12 : am_and (am_sx S i) 31 = 12
      · have es : am_sw 32 913 0 30 #[140, 163, 176, 189, 212, 245, 268, 301, 344, 377, 400, 433, 456, 479, 502, 545, 568, 601, 644, 667, 680, 693, 726, 759, 772, 785, 818, 831, 844, 867, 890] (am_and (am_sx S i) 31) = 488 := by rw [hc12]; rfl
        obtain ⟨r, X', M1, M2, r1, ok', d1, d2, c', m'⟩ := l_one (p_drift hS x1) h0 hB ok c m
        obtain ⟨M3, d3⟩ := ih (i + 4) (B + 1000) X' M2 (by omega) (by omega) (by omega) (by omega) (by omega) ok' c' m'
        refine ⟨M3, ?_⟩
        simp (disch := omega) only [b_La_law_26, es, b_La_law_488, b_La_law_497, b_La_law_506, b_La_law_945, tp0, tp1, tp2, tp3, tp4, tp5, tp6, tp7, tp8, tp9, mo0, mr0, mr1, mr2, mr3, mr4, mr5, mr6, mr7, mr8, mr9, mr10, mr11, mk0, mk1, mk2, mk3, mk4, mk5, mk6, mk7, mk8, mk9, mk10, mk11, d1, d2, d3, am_ck_T, am_ck_t, am_cif_t, am_cif_f, am_cif_T, am_cif_F, am_then_s, am_push_s, am_push_n, true_and, and_true, true_or, or_true, Int.cast_ofNat_Int, am_02, am_22, not_true_eq_false, not_false_eq_true]
      by_cases hc13 : am_and (am_sx S i) 31 = 13
      · have es : am_sw 32 913 0 30 #[140, 163, 176, 189, 212, 245, 268, 301, 344, 377, 400, 433, 456, 479, 502, 545, 568, 601, 644, 667, 680, 693, 726, 759, 772, 785, 818, 831, 844, 867, 890] (am_and (am_sx S i) 31) = 511 := by rw [hc13]; rfl
        obtain ⟨r, X', M1, M2, r1, ok', d1, d2, c', m'⟩ := l_one (p_undo hS x1) h0 hB ok c m
        obtain ⟨M3, d3⟩ := ih (i + 4) (B + 1000) X' M2 (by omega) (by omega) (by omega) (by omega) (by omega) ok' c' m'
        refine ⟨M3, ?_⟩
        simp (disch := omega) only [b_La_law_26, es, b_La_law_511, b_La_law_520, b_La_law_529, b_La_law_945, tp0, tp1, tp2, tp3, tp4, tp5, tp6, tp7, tp8, tp9, mo0, mr0, mr1, mr2, mr3, mr4, mr5, mr6, mr7, mr8, mr9, mr10, mr11, mk0, mk1, mk2, mk3, mk4, mk5, mk6, mk7, mk8, mk9, mk10, mk11, d1, d2, d3, am_ck_T, am_ck_t, am_cif_t, am_cif_f, am_cif_T, am_cif_F, am_then_s, am_push_s, am_push_n, true_and, and_true, true_or, or_true, Int.cast_ofNat_Int, am_02, am_22, not_true_eq_false, not_false_eq_true]
      by_cases hc14 : am_and (am_sx S i) 31 = 14
      · have es : am_sw 32 913 0 30 #[140, 163, 176, 189, 212, 245, 268, 301, 344, 377, 400, 433, 456, 479, 502, 545, 568, 601, 644, 667, 680, 693, 726, 759, 772, 785, 818, 831, 844, 867, 890] (am_and (am_sx S i) 31) = 534 := by rw [hc14]; rfl
        obtain ⟨r, X', M1, M2, r1, ok', d1, d2, c', m'⟩ := l_one (p_ways hS x1 x2 x3) h0 hB ok c m
        obtain ⟨M3, d3⟩ := ih (i + 4) (B + 1000) X' M2 (by omega) (by omega) (by omega) (by omega) (by omega) ok' c' m'
        refine ⟨M3, ?_⟩
        simp (disch := omega) only [b_La_law_26, es, b_La_law_534, b_La_law_553, b_La_law_572, b_La_law_945, tp0, tp1, tp2, tp3, tp4, tp5, tp6, tp7, tp8, tp9, mo0, mr0, mr1, mr2, mr3, mr4, mr5, mr6, mr7, mr8, mr9, mr10, mr11, mk0, mk1, mk2, mk3, mk4, mk5, mk6, mk7, mk8, mk9, mk10, mk11, d1, d2, d3, am_ck_T, am_ck_t, am_cif_t, am_cif_f, am_cif_T, am_cif_F, am_then_s, am_push_s, am_push_n, true_and, and_true, true_or, or_true, Int.cast_ofNat_Int, am_02, am_22, not_true_eq_false, not_false_eq_true]
      by_cases hc15 : am_and (am_sx S i) 31 = 15
      · have es : am_sw 32 913 0 30 #[140, 163, 176, 189, 212, 245, 268, 301, 344, 377, 400, 433, 456, 479, 502, 545, 568, 601, 644, 667, 680, 693, 726, 759, 772, 785, 818, 831, 844, 867, 890] (am_and (am_sx S i) 31) = 577 := by rw [hc15]; rfl
        obtain ⟨r, X', M1, M2, r1, ok', d1, d2, c', m'⟩ := l_one (p_reached hS x1) h0 hB ok c m
        obtain ⟨M3, d3⟩ := ih (i + 4) (B + 1000) X' M2 (by omega) (by omega) (by omega) (by omega) (by omega) ok' c' m'
        refine ⟨M3, ?_⟩
        simp (disch := omega) only [b_La_law_26, es, b_La_law_577, b_La_law_586, b_La_law_595, b_La_law_945, tp0, tp1, tp2, tp3, tp4, tp5, tp6, tp7, tp8, tp9, mo0, mr0, mr1, mr2, mr3, mr4, mr5, mr6, mr7, mr8, mr9, mr10, mr11, mk0, mk1, mk2, mk3, mk4, mk5, mk6, mk7, mk8, mk9, mk10, mk11, d1, d2, d3, am_ck_T, am_ck_t, am_cif_t, am_cif_f, am_cif_T, am_cif_F, am_then_s, am_push_s, am_push_n, true_and, and_true, true_or, or_true, Int.cast_ofNat_Int, am_02, am_22, not_true_eq_false, not_false_eq_true]
      by_cases hc16 : am_and (am_sx S i) 31 = 16
      · have es : am_sw 32 913 0 30 #[140, 163, 176, 189, 212, 245, 268, 301, 344, 377, 400, 433, 456, 479, 502, 545, 568, 601, 644, 667, 680, 693, 726, 759, 772, 785, 818, 831, 844, 867, 890] (am_and (am_sx S i) 31) = 600 := by rw [hc16]; rfl
        obtain ⟨r, X', M1, M2, r1, ok', d1, d2, c', m'⟩ := l_one (p_cuts hS x1 x2) h0 hB ok c m
        obtain ⟨M3, d3⟩ := ih (i + 4) (B + 1000) X' M2 (by omega) (by omega) (by omega) (by omega) (by omega) ok' c' m'
        refine ⟨M3, ?_⟩
        simp (disch := omega) only [b_La_law_26, es, b_La_law_600, b_La_law_614, b_La_law_628, b_La_law_945, tp0, tp1, tp2, tp3, tp4, tp5, tp6, tp7, tp8, tp9, mo0, mr0, mr1, mr2, mr3, mr4, mr5, mr6, mr7, mr8, mr9, mr10, mr11, mk0, mk1, mk2, mk3, mk4, mk5, mk6, mk7, mk8, mk9, mk10, mk11, d1, d2, d3, am_ck_T, am_ck_t, am_cif_t, am_cif_f, am_cif_T, am_cif_F, am_then_s, am_push_s, am_push_n, true_and, and_true, true_or, or_true, Int.cast_ofNat_Int, am_02, am_22, not_true_eq_false, not_false_eq_true]
      by_cases hc17 : am_and (am_sx S i) 31 = 17
      · have es : am_sw 32 913 0 30 #[140, 163, 176, 189, 212, 245, 268, 301, 344, 377, 400, 433, 456, 479, 502, 545, 568, 601, 644, 667, 680, 693, 726, 759, 772, 785, 818, 831, 844, 867, 890] (am_and (am_sx S i) 31) = 633 := by rw [hc17]; rfl
        obtain ⟨r, X', M1, M2, r1, ok', d1, d2, c', m'⟩ := l_one (p_lacks hS x1 x2 x3) h0 hB ok c m
        obtain ⟨M3, d3⟩ := ih (i + 4) (B + 1000) X' M2 (by omega) (by omega) (by omega) (by omega) (by omega) ok' c' m'
        refine ⟨M3, ?_⟩
        simp (disch := omega) only [b_La_law_26, es, b_La_law_633, b_La_law_652, b_La_law_671, b_La_law_945, tp0, tp1, tp2, tp3, tp4, tp5, tp6, tp7, tp8, tp9, mo0, mr0, mr1, mr2, mr3, mr4, mr5, mr6, mr7, mr8, mr9, mr10, mr11, mk0, mk1, mk2, mk3, mk4, mk5, mk6, mk7, mk8, mk9, mk10, mk11, d1, d2, d3, am_ck_T, am_ck_t, am_cif_t, am_cif_f, am_cif_T, am_cif_F, am_then_s, am_push_s, am_push_n, true_and, and_true, true_or, or_true, Int.cast_ofNat_Int, am_02, am_22, not_true_eq_false, not_false_eq_true]
      by_cases hc18 : am_and (am_sx S i) 31 = 18
      · have es : am_sw 32 913 0 30 #[140, 163, 176, 189, 212, 245, 268, 301, 344, 377, 400, 433, 456, 479, 502, 545, 568, 601, 644, 667, 680, 693, 726, 759, 772, 785, 818, 831, 844, 867, 890] (am_and (am_sx S i) 31) = 676 := by rw [hc18]; rfl
        obtain ⟨r, X', M1, M2, r1, ok', d1, d2, c', m'⟩ := l_one (p_meet hS x1) h0 hB ok c m
        obtain ⟨M3, d3⟩ := ih (i + 4) (B + 1000) X' M2 (by omega) (by omega) (by omega) (by omega) (by omega) ok' c' m'
        refine ⟨M3, ?_⟩
        simp (disch := omega) only [b_La_law_26, es, b_La_law_676, b_La_law_685, b_La_law_694, b_La_law_945, tp0, tp1, tp2, tp3, tp4, tp5, tp6, tp7, tp8, tp9, mo0, mr0, mr1, mr2, mr3, mr4, mr5, mr6, mr7, mr8, mr9, mr10, mr11, mk0, mk1, mk2, mk3, mk4, mk5, mk6, mk7, mk8, mk9, mk10, mk11, d1, d2, d3, am_ck_T, am_ck_t, am_cif_t, am_cif_f, am_cif_T, am_cif_F, am_then_s, am_push_s, am_push_n, true_and, and_true, true_or, or_true, Int.cast_ofNat_Int, am_02, am_22, not_true_eq_false, not_false_eq_true]
      by_cases hc19 : am_and (am_sx S i) 31 = 19
      · have es : am_sw 32 913 0 30 #[140, 163, 176, 189, 212, 245, 268, 301, 344, 377, 400, 433, 456, 479, 502, 545, 568, 601, 644, 667, 680, 693, 726, 759, 772, 785, 818, 831, 844, 867, 890] (am_and (am_sx S i) 31) = 699 := by rw [hc19]; rfl
        obtain ⟨r, X', M1, M2, r1, ok', d1, d2, c', m'⟩ := l_one (p_bestEnd hS) h0 hB ok c m
        obtain ⟨M3, d3⟩ := ih (i + 4) (B + 1000) X' M2 (by omega) (by omega) (by omega) (by omega) (by omega) ok' c' m'
        refine ⟨M3, ?_⟩
        simp (disch := omega) only [b_La_law_26, es, b_La_law_699, b_La_law_703, b_La_law_707, b_La_law_945, tp0, tp1, tp2, tp3, tp4, tp5, tp6, tp7, tp8, tp9, mo0, mr0, mr1, mr2, mr3, mr4, mr5, mr6, mr7, mr8, mr9, mr10, mr11, mk0, mk1, mk2, mk3, mk4, mk5, mk6, mk7, mk8, mk9, mk10, mk11, d1, d2, d3, am_ck_T, am_ck_t, am_cif_t, am_cif_f, am_cif_T, am_cif_F, am_then_s, am_push_s, am_push_n, true_and, and_true, true_or, or_true, Int.cast_ofNat_Int, am_02, am_22, not_true_eq_false, not_false_eq_true]
      by_cases hc20 : am_and (am_sx S i) 31 = 20
      · have es : am_sw 32 913 0 30 #[140, 163, 176, 189, 212, 245, 268, 301, 344, 377, 400, 433, 456, 479, 502, 545, 568, 601, 644, 667, 680, 693, 726, 759, 772, 785, 818, 831, 844, 867, 890] (am_and (am_sx S i) 31) = 712 := by rw [hc20]; rfl
        obtain ⟨r, X', M1, M2, r1, ok', d1, d2, c', m'⟩ := l_one (p_warm hS) h0 hB ok c m
        obtain ⟨M3, d3⟩ := ih (i + 4) (B + 1000) X' M2 (by omega) (by omega) (by omega) (by omega) (by omega) ok' c' m'
        refine ⟨M3, ?_⟩
        simp (disch := omega) only [b_La_law_26, es, b_La_law_712, b_La_law_716, b_La_law_720, b_La_law_945, tp0, tp1, tp2, tp3, tp4, tp5, tp6, tp7, tp8, tp9, mo0, mr0, mr1, mr2, mr3, mr4, mr5, mr6, mr7, mr8, mr9, mr10, mr11, mk0, mk1, mk2, mk3, mk4, mk5, mk6, mk7, mk8, mk9, mk10, mk11, d1, d2, d3, am_ck_T, am_ck_t, am_cif_t, am_cif_f, am_cif_T, am_cif_F, am_then_s, am_push_s, am_push_n, true_and, and_true, true_or, or_true, Int.cast_ofNat_Int, am_02, am_22, not_true_eq_false, not_false_eq_true]
      by_cases hc21 : am_and (am_sx S i) 31 = 21
      · have es : am_sw 32 913 0 30 #[140, 163, 176, 189, 212, 245, 268, 301, 344, 377, 400, 433, 456, 479, 502, 545, 568, 601, 644, 667, 680, 693, 726, 759, 772, 785, 818, 831, 844, 867, 890] (am_and (am_sx S i) 31) = 725 := by rw [hc21]; rfl
        obtain ⟨r, X', M1, M2, r1, ok', d1, d2, c', m'⟩ := l_one (p_names hS x1 x2) h0 hB ok c m
        obtain ⟨M3, d3⟩ := ih (i + 4) (B + 1000) X' M2 (by omega) (by omega) (by omega) (by omega) (by omega) ok' c' m'
        refine ⟨M3, ?_⟩
        simp (disch := omega) only [b_La_law_26, es, b_La_law_725, b_La_law_739, b_La_law_753, b_La_law_945, tp0, tp1, tp2, tp3, tp4, tp5, tp6, tp7, tp8, tp9, mo0, mr0, mr1, mr2, mr3, mr4, mr5, mr6, mr7, mr8, mr9, mr10, mr11, mk0, mk1, mk2, mk3, mk4, mk5, mk6, mk7, mk8, mk9, mk10, mk11, d1, d2, d3, am_ck_T, am_ck_t, am_cif_t, am_cif_f, am_cif_T, am_cif_F, am_then_s, am_push_s, am_push_n, true_and, and_true, true_or, or_true, Int.cast_ofNat_Int, am_02, am_22, not_true_eq_false, not_false_eq_true]
      by_cases hc22 : am_and (am_sx S i) 31 = 22
      · have es : am_sw 32 913 0 30 #[140, 163, 176, 189, 212, 245, 268, 301, 344, 377, 400, 433, 456, 479, 502, 545, 568, 601, 644, 667, 680, 693, 726, 759, 772, 785, 818, 831, 844, 867, 890] (am_and (am_sx S i) 31) = 758 := by rw [hc22]; rfl
        obtain ⟨r, X', M1, M2, r1, ok', d1, d2, c', m'⟩ := l_one (p_see hS x1 x2) h0 hB ok c m
        obtain ⟨M3, d3⟩ := ih (i + 4) (B + 1000) X' M2 (by omega) (by omega) (by omega) (by omega) (by omega) ok' c' m'
        refine ⟨M3, ?_⟩
        simp (disch := omega) only [b_La_law_26, es, b_La_law_758, b_La_law_772, b_La_law_786, b_La_law_945, tp0, tp1, tp2, tp3, tp4, tp5, tp6, tp7, tp8, tp9, mo0, mr0, mr1, mr2, mr3, mr4, mr5, mr6, mr7, mr8, mr9, mr10, mr11, mk0, mk1, mk2, mk3, mk4, mk5, mk6, mk7, mk8, mk9, mk10, mk11, d1, d2, d3, am_ck_T, am_ck_t, am_cif_t, am_cif_f, am_cif_T, am_cif_F, am_then_s, am_push_s, am_push_n, true_and, and_true, true_or, or_true, Int.cast_ofNat_Int, am_02, am_22, not_true_eq_false, not_false_eq_true]
      by_cases hc23 : am_and (am_sx S i) 31 = 23
      · have es : am_sw 32 913 0 30 #[140, 163, 176, 189, 212, 245, 268, 301, 344, 377, 400, 433, 456, 479, 502, 545, 568, 601, 644, 667, 680, 693, 726, 759, 772, 785, 818, 831, 844, 867, 890] (am_and (am_sx S i) 31) = 791 := by rw [hc23]; rfl
        obtain ⟨r, X', M1, M2, r1, ok', d1, d2, c', m'⟩ := l_one (p_could hS) h0 hB ok c m
        obtain ⟨M3, d3⟩ := ih (i + 4) (B + 1000) X' M2 (by omega) (by omega) (by omega) (by omega) (by omega) ok' c' m'
        refine ⟨M3, ?_⟩
        simp (disch := omega) only [b_La_law_26, es, b_La_law_791, b_La_law_795, b_La_law_799, b_La_law_945, tp0, tp1, tp2, tp3, tp4, tp5, tp6, tp7, tp8, tp9, mo0, mr0, mr1, mr2, mr3, mr4, mr5, mr6, mr7, mr8, mr9, mr10, mr11, mk0, mk1, mk2, mk3, mk4, mk5, mk6, mk7, mk8, mk9, mk10, mk11, d1, d2, d3, am_ck_T, am_ck_t, am_cif_t, am_cif_f, am_cif_T, am_cif_F, am_then_s, am_push_s, am_push_n, true_and, and_true, true_or, or_true, Int.cast_ofNat_Int, am_02, am_22, not_true_eq_false, not_false_eq_true]
      by_cases hc24 : am_and (am_sx S i) 31 = 24
      · have es : am_sw 32 913 0 30 #[140, 163, 176, 189, 212, 245, 268, 301, 344, 377, 400, 433, 456, 479, 502, 545, 568, 601, 644, 667, 680, 693, 726, 759, 772, 785, 818, 831, 844, 867, 890] (am_and (am_sx S i) 31) = 804 := by rw [hc24]; rfl
        obtain ⟨r, X', M1, M2, r1, ok', d1, d2, c', m'⟩ := l_one (p_lookAt hS) h0 hB ok c m
        obtain ⟨M3, d3⟩ := ih (i + 4) (B + 1000) X' M2 (by omega) (by omega) (by omega) (by omega) (by omega) ok' c' m'
        refine ⟨M3, ?_⟩
        simp (disch := omega) only [b_La_law_26, es, b_La_law_804, b_La_law_808, b_La_law_812, b_La_law_945, tp0, tp1, tp2, tp3, tp4, tp5, tp6, tp7, tp8, tp9, mo0, mr0, mr1, mr2, mr3, mr4, mr5, mr6, mr7, mr8, mr9, mr10, mr11, mk0, mk1, mk2, mk3, mk4, mk5, mk6, mk7, mk8, mk9, mk10, mk11, d1, d2, d3, am_ck_T, am_ck_t, am_cif_t, am_cif_f, am_cif_T, am_cif_F, am_then_s, am_push_s, am_push_n, true_and, and_true, true_or, or_true, Int.cast_ofNat_Int, am_02, am_22, not_true_eq_false, not_false_eq_true]
      by_cases hc25 : am_and (am_sx S i) 31 = 25
      · have es : am_sw 32 913 0 30 #[140, 163, 176, 189, 212, 245, 268, 301, 344, 377, 400, 433, 456, 479, 502, 545, 568, 601, 644, 667, 680, 693, 726, 759, 772, 785, 818, 831, 844, 867, 890] (am_and (am_sx S i) 31) = 817 := by rw [hc25]; rfl
        obtain ⟨r, X', M1, M2, r1, ok', d1, d2, c', m'⟩ := l_one (p_write hS x1 x2) h0 hB ok c m
        obtain ⟨M3, d3⟩ := ih (i + 4) (B + 1000) X' M2 (by omega) (by omega) (by omega) (by omega) (by omega) ok' c' m'
        refine ⟨M3, ?_⟩
        simp (disch := omega) only [b_La_law_26, es, b_La_law_817, b_La_law_831, b_La_law_845, b_La_law_945, tp0, tp1, tp2, tp3, tp4, tp5, tp6, tp7, tp8, tp9, mo0, mr0, mr1, mr2, mr3, mr4, mr5, mr6, mr7, mr8, mr9, mr10, mr11, mk0, mk1, mk2, mk3, mk4, mk5, mk6, mk7, mk8, mk9, mk10, mk11, d1, d2, d3, am_ck_T, am_ck_t, am_cif_t, am_cif_f, am_cif_T, am_cif_F, am_then_s, am_push_s, am_push_n, true_and, and_true, true_or, or_true, Int.cast_ofNat_Int, am_02, am_22, not_true_eq_false, not_false_eq_true]
      by_cases hc26 : am_and (am_sx S i) 31 = 26
      · have es : am_sw 32 913 0 30 #[140, 163, 176, 189, 212, 245, 268, 301, 344, 377, 400, 433, 456, 479, 502, 545, 568, 601, 644, 667, 680, 693, 726, 759, 772, 785, 818, 831, 844, 867, 890] (am_and (am_sx S i) 31) = 850 := by rw [hc26]; rfl
        obtain ⟨r, X', M1, M2, r1, ok', d1, d2, c', m'⟩ := l_one (p_judge hS) h0 hB ok c m
        obtain ⟨M3, d3⟩ := ih (i + 4) (B + 1000) X' M2 (by omega) (by omega) (by omega) (by omega) (by omega) ok' c' m'
        refine ⟨M3, ?_⟩
        simp (disch := omega) only [b_La_law_26, es, b_La_law_850, b_La_law_854, b_La_law_858, b_La_law_945, tp0, tp1, tp2, tp3, tp4, tp5, tp6, tp7, tp8, tp9, mo0, mr0, mr1, mr2, mr3, mr4, mr5, mr6, mr7, mr8, mr9, mr10, mr11, mk0, mk1, mk2, mk3, mk4, mk5, mk6, mk7, mk8, mk9, mk10, mk11, d1, d2, d3, am_ck_T, am_ck_t, am_cif_t, am_cif_f, am_cif_T, am_cif_F, am_then_s, am_push_s, am_push_n, true_and, and_true, true_or, or_true, Int.cast_ofNat_Int, am_02, am_22, not_true_eq_false, not_false_eq_true]
      by_cases hc27 : am_and (am_sx S i) 31 = 27
      · have es : am_sw 32 913 0 30 #[140, 163, 176, 189, 212, 245, 268, 301, 344, 377, 400, 433, 456, 479, 502, 545, 568, 601, 644, 667, 680, 693, 726, 759, 772, 785, 818, 831, 844, 867, 890] (am_and (am_sx S i) 31) = 863 := by rw [hc27]; rfl
        obtain ⟨r, X', M1, M2, r1, ok', d1, d2, c', m'⟩ := l_one (p_tear hS) h0 hB ok c m
        obtain ⟨M3, d3⟩ := ih (i + 4) (B + 1000) X' M2 (by omega) (by omega) (by omega) (by omega) (by omega) ok' c' m'
        refine ⟨M3, ?_⟩
        simp (disch := omega) only [b_La_law_26, es, b_La_law_863, b_La_law_867, b_La_law_871, b_La_law_945, tp0, tp1, tp2, tp3, tp4, tp5, tp6, tp7, tp8, tp9, mo0, mr0, mr1, mr2, mr3, mr4, mr5, mr6, mr7, mr8, mr9, mr10, mr11, mk0, mk1, mk2, mk3, mk4, mk5, mk6, mk7, mk8, mk9, mk10, mk11, d1, d2, d3, am_ck_T, am_ck_t, am_cif_t, am_cif_f, am_cif_T, am_cif_F, am_then_s, am_push_s, am_push_n, true_and, and_true, true_or, or_true, Int.cast_ofNat_Int, am_02, am_22, not_true_eq_false, not_false_eq_true]
      by_cases hc28 : am_and (am_sx S i) 31 = 28
      · have es : am_sw 32 913 0 30 #[140, 163, 176, 189, 212, 245, 268, 301, 344, 377, 400, 433, 456, 479, 502, 545, 568, 601, 644, 667, 680, 693, 726, 759, 772, 785, 818, 831, 844, 867, 890] (am_and (am_sx S i) 31) = 876 := by rw [hc28]; rfl
        obtain ⟨r, X', M1, M2, r1, ok', d1, d2, c', m'⟩ := l_one (p_seed hS x1) h0 hB ok c m
        obtain ⟨M3, d3⟩ := ih (i + 4) (B + 1000) X' M2 (by omega) (by omega) (by omega) (by omega) (by omega) ok' c' m'
        refine ⟨M3, ?_⟩
        simp (disch := omega) only [b_La_law_26, es, b_La_law_876, b_La_law_885, b_La_law_894, b_La_law_945, tp0, tp1, tp2, tp3, tp4, tp5, tp6, tp7, tp8, tp9, mo0, mr0, mr1, mr2, mr3, mr4, mr5, mr6, mr7, mr8, mr9, mr10, mr11, mk0, mk1, mk2, mk3, mk4, mk5, mk6, mk7, mk8, mk9, mk10, mk11, d1, d2, d3, am_ck_T, am_ck_t, am_cif_t, am_cif_f, am_cif_T, am_cif_F, am_then_s, am_push_s, am_push_n, true_and, and_true, true_or, or_true, Int.cast_ofNat_Int, am_02, am_22, not_true_eq_false, not_false_eq_true]
      by_cases hc29 : am_and (am_sx S i) 31 = 29
      · have es : am_sw 32 913 0 30 #[140, 163, 176, 189, 212, 245, 268, 301, 344, 377, 400, 433, 456, 479, 502, 545, 568, 601, 644, 667, 680, 693, 726, 759, 772, 785, 818, 831, 844, 867, 890] (am_and (am_sx S i) 31) = 899 := by rw [hc29]; rfl
        obtain ⟨r, X', M1, M2, r1, ok', d1, d2, c', m'⟩ := l_one (p_keep hS x1) h0 hB ok c m
        obtain ⟨M3, d3⟩ := ih (i + 4) (B + 1000) X' M2 (by omega) (by omega) (by omega) (by omega) (by omega) ok' c' m'
        refine ⟨M3, ?_⟩
        simp (disch := omega) only [b_La_law_26, es, b_La_law_899, b_La_law_908, b_La_law_917, b_La_law_945, tp0, tp1, tp2, tp3, tp4, tp5, tp6, tp7, tp8, tp9, mo0, mr0, mr1, mr2, mr3, mr4, mr5, mr6, mr7, mr8, mr9, mr10, mr11, mk0, mk1, mk2, mk3, mk4, mk5, mk6, mk7, mk8, mk9, mk10, mk11, d1, d2, d3, am_ck_T, am_ck_t, am_cif_t, am_cif_f, am_cif_T, am_cif_F, am_then_s, am_push_s, am_push_n, true_and, and_true, true_or, or_true, Int.cast_ofNat_Int, am_02, am_22, not_true_eq_false, not_false_eq_true]
      by_cases hc30 : am_and (am_sx S i) 31 = 30
      · have es : am_sw 32 913 0 30 #[140, 163, 176, 189, 212, 245, 268, 301, 344, 377, 400, 433, 456, 479, 502, 545, 568, 601, 644, 667, 680, 693, 726, 759, 772, 785, 818, 831, 844, 867, 890] (am_and (am_sx S i) 31) = 922 := by rw [hc30]; rfl
        obtain ⟨r, X', M1, M2, r1, ok', d1, d2, c', m'⟩ := l_one (p_goBack hS x1) h0 hB ok c m
        obtain ⟨M3, d3⟩ := ih (i + 4) (B + 1000) X' M2 (by omega) (by omega) (by omega) (by omega) (by omega) ok' c' m'
        refine ⟨M3, ?_⟩
        simp (disch := omega) only [b_La_law_26, es, b_La_law_922, b_La_law_931, b_La_law_940, b_La_law_945, tp0, tp1, tp2, tp3, tp4, tp5, tp6, tp7, tp8, tp9, mo0, mr0, mr1, mr2, mr3, mr4, mr5, mr6, mr7, mr8, mr9, mr10, mr11, mk0, mk1, mk2, mk3, mk4, mk5, mk6, mk7, mk8, mk9, mk10, mk11, d1, d2, d3, am_ck_T, am_ck_t, am_cif_t, am_cif_f, am_cif_T, am_cif_F, am_then_s, am_push_s, am_push_n, true_and, and_true, true_or, or_true, Int.cast_ofNat_Int, am_02, am_22, not_true_eq_false, not_false_eq_true]
      have es : am_sw 32 913 0 30 #[140, 163, 176, 189, 212, 245, 268, 301, 344, 377, 400, 433, 456, 479, 502, 545, 568, 601, 644, 667, 680, 693, 726, 759, 772, 785, 818, 831, 844, 867, 890] (am_and (am_sx S i) 31) = 945 := by
        have h31 : am_and (am_sx S i) 31 = 31 := by omega
        rw [h31]; rfl
      obtain ⟨M3, d3⟩ := ih (i + 4) B X M (by omega) (by omega) (by omega) (by omega) (by omega) ok c m
      refine ⟨M3, ?_⟩
      simp (disch := omega) only [b_La_law_26, es, b_La_law_945, tp0, tp1, tp2, tp3, tp4, tp5, tp6, tp7, tp8, tp9, mo0, mr0, mr1, mr2, mr3, mr4, mr5, mr6, mr7, mr8, mr9, mr10, mr11, mk0, mk1, mk2, mk3, mk4, mk5, mk6, mk7, mk8, mk9, mk10, mk11, d3, am_ck_T, am_ck_t, am_cif_t, am_cif_f, am_cif_T, am_cif_F, am_then_s, am_push_s, am_push_n, true_and, and_true, true_or, or_true, Int.cast_ofNat_Int, am_02, am_22, not_true_eq_false, not_false_eq_true]
theorem whole_start {p : Program} {e : Env} {s : State} {m : MethodId} {below : List Frame} {meth : Method} {c : Code} (l : Launch) {b L : Nat} {xs : Nat → Int32} (hL : L ≤ 256) (C0 : lw_At p s m meth c b L xs) : W p l e room_1 s m #[Value.ref b] below meth c s.heap [] 0 0 (lw_Z below #[Value.ref b] s) (entryFrame m ([Value.ref b] : List Value).toArray 4) := by
  obtain ⟨S, a1, a2, a3, a4, a5, a6⟩ := l_start L (fun j => (xs j.toNat).toInt)
  have hx : ∀ j, am_Ri (am_sx S j) := fun j => by
    rw [a6 j]
    have h1 := Int32.le_toInt (xs j.toNat)
    have h2 := Int32.toInt_lt (xs j.toNat)
    exact ⟨by omega, by omega⟩
  obtain ⟨M1, b1⟩ := l_loop a2 (by omega) hx 64 0 0 vX0 M_0 (by omega) (by omega) (by omega) (by omega) (by omega) okX_0 CX_0 MX_0
  exact lw_sim l C0 (a1.trans b1) a3 a4
end LAW
