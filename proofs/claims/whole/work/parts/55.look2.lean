/-! lookAt: the class's greatest part -/
section LOOK2
variable {S : am_S} {M M1 : am_M} {X : vX} {B : Int} {P : vP} {R : vR}
theorem k_greatestPart (hS : ly S) (hP : okP P) (cp : cP P M) {a l : Int} (h1 : 0 ≤ l) (h2 : l < vnl P) : ∃ M1, am_call 53 [am_r 146, am_i a, am_i l] S M = some (some (am_i (vmx (fun k => vct P a l k 10))), S, M1) ∧ fr 149 149 M M1 := by
  obtain ⟨si0, si1, si2, si3, si4, si5, si6, si7⟩ := hS.2.2.2.2.2.2.2.1
  have hP1 := hP.1
  have hP2 := hP.2.1
  have hP3 := hP.2.2.1
  have hP4 := hP.2.2.2.1
  have s1 := hP.2.2.2.2.1 l h1 h2
  have init : ∀ (n : Nat) (i : Int) (M : am_M), 0 ≤ i → i + n = 6 → (∀ j, 0 ≤ j → j < i → M 149 j = 0) → ∃ M1, am_R 53 2 [some (am_r 146), some (am_i a), some (am_i l), some (am_i i), none, none] [] S M = am_R 53 21 [some (am_r 146), some (am_i a), some (am_i l), some (am_i 6), none, none] [] S M1 ∧ (∀ j, 0 ≤ j → j < 6 → M1 149 j = 0) ∧ fr 149 149 M M1 := by
    intro n
    induction n with
    | zero =>
      intro i M i1 i2 h
      obtain rfl : i = 6 := by omega
      refine ⟨M, ?_, h, fr_rf⟩
      rw [b_Si_greatestPart_2]
      simp (disch := omega) only [am_ck_T, am_ck_t, am_cif_t, am_cif_f, am_cif_T, am_cif_F, am_then_s, am_push_s, am_push_n, true_and, and_true, true_or, or_true, Int.cast_ofNat_Int, am_02, am_22, not_true_eq_false, not_false_eq_true]
    | succ n ih =>
      intro i M i1 i2 h
      obtain ⟨M1, d1, d2, d3⟩ := ih (i + 1) (am_wr M 149 i 0) (by omega) (by omega) (fun j j1 j2 => by
        by_cases hj : j = i
        · rw [hj, am_wr_s]
        · rw [am_wr_i hj]; exact h j j1 (by omega))
      refine ⟨M1, ?_, d2, fr_tr (fr_wr (by omega)) d3⟩
      rw [b_Si_greatestPart_2]
      simp (disch := omega) only [b_Si_greatestPart_8, si0, si1, si2, si3, si4, si5, si6, si7, d1, am_ck_T, am_ck_t, am_cif_t, am_cif_f, am_cif_T, am_cif_F, am_then_s, am_push_s, am_push_n, true_and, and_true, true_or, or_true, Int.cast_ofNat_Int, am_02, am_22, not_true_eq_false, not_false_eq_true]
  have loop : ∀ (n : Nat) (u : Nat) (g : Int) (M : am_M) (o5 : Option am_V), u + n = 10 → cP P M → (∀ j, 0 ≤ j → j < 6 → M 149 j = vct P a l j u) → 0 ≤ g → g ≤ u → (∀ j, 0 ≤ j → j < 6 → vct P a l j u ≤ g) → (g = 0 ∨ ∃ j, 0 ≤ j ∧ j < 6 ∧ vct P a l j u = g) → ∃ M1, am_R 53 26 [some (am_r 146), some (am_i a), some (am_i l), some (am_i g), some (am_i (u : Int)), o5] [] S M = some (some (am_i (vmx (fun k => vct P a l k 10))), S, M1) ∧ fr 149 149 M M1 := by
    intro n
    induction n with
    | zero =>
      intro u g M o5 hu cp hm g1 g2 g3 g4
      obtain rfl : u = 10 := by omega
      have e := vmx_e (f := fun k => vct P a l k 10) g1 g3 g4
      refine ⟨M, ?_, fr_rf⟩
      rw [← e, b_Si_greatestPart_26]
      simp (disch := omega) only [b_Si_greatestPart_80, am_ck_T, am_ck_t, am_cif_t, am_cif_f, am_cif_T, am_cif_F, am_then_s, am_push_s, am_push_n, true_and, and_true, true_or, or_true, Int.cast_ofNat_Int, am_02, am_22, not_true_eq_false, not_false_eq_true]
    | succ n ih =>
      intro u g M o5 hu cp hm g1 g2 g3 g4
      have b1 := am_bit_01 (am_shr a (u : Int))
      have q1 := k_stopBy hS hP cp h1 h2 (show (0 : Int) ≤ (u : Int) by omega) (show (u : Int) ≤ 9 by omega)
      have q3 : 0 ≤ vst2 P l (u : Int) ∧ vst2 P l (u : Int) ≤ vsz P l - 1 := vgo_r (by omega) (by omega) (by omega) (by omega)
      by_cases hb : am_and (am_shr a (u : Int)) 1 = 1
      · generalize hk : vst2 P l (u : Int) = k at q1 q3
        have st : ∀ j, vct P a l j (u + 1) = if j = k then vct P a l k u + 1 else vct P a l j u := by
          intro j
          rw [vct_S]
          by_cases hj : j = k
          · rw [if_pos hj, hj, bo_t ⟨hb, hk⟩]
          · rw [if_neg hj, bo_f (fun z => hj (by rw [← z.2, hk])), Int.add_zero]
        have rk := vct_r P a l k u
        have mk := hm k q3.1 (by omega)
        have ms : am_wr M 149 k (vct P a l k u + 1) 149 k = vct P a l k u + 1 := am_wr_s
        obtain ⟨M1, d1, d2⟩ := ih (u + 1) (max g (vct P a l k u + 1)) (am_wr M 149 k (vct P a l k u + 1)) (some (am_i k)) (by omega) (cP_fr (lo := 149) (hi := 149) (fr_wr (by omega)) (by omega) cp) (fun j j1 j2 => by
          rw [st j]
          by_cases hj : j = k
          · rw [if_pos hj, hj, am_wr_s]
          · rw [if_neg hj, am_wr_i hj]; exact hm j j1 j2) (by omega) (by omega) (fun j j1 j2 => by
          rw [st j]
          have := g3 j j1 j2
          by_cases hj : j = k
          · rw [if_pos hj]; omega
          · rw [if_neg hj]; omega) (by
          by_cases hx : g ≤ vct P a l k u + 1
          · exact Or.inr ⟨k, q3.1, by omega, by rw [st k, if_pos rfl]; omega⟩
          · rcases g4 with g4 | ⟨j, j1, j2, j3⟩
            · omega
            · refine Or.inr ⟨j, j1, j2, ?_⟩
              rw [st j, if_neg (fun hj => by rw [hj] at j3; omega)]
              omega)
        rw [Int.natCast_add, Int.natCast_one] at d1
        refine ⟨M1, ?_, fr_tr (fr_wr (by omega)) d2⟩
        rw [b_Si_greatestPart_26]
        simp (disch := omega) only [b_Si_greatestPart_33, b_Si_greatestPart_42, b_Si_greatestPart_49, b_Si_greatestPart_74, si0, si1, si2, si3, si4, si5, si6, si7, hb, q1, mk, ms, d1, am_ck_T, am_ck_t, am_cif_t, am_cif_f, am_cif_T, am_cif_F, am_then_s, am_push_s, am_push_n, true_and, and_true, true_or, or_true, Int.cast_ofNat_Int, am_02, am_22, not_true_eq_false, not_false_eq_true]
      · have st : ∀ j, vct P a l j (u + 1) = vct P a l j u := by
          intro j
          rw [vct_S, bo_f (fun z => hb z.1), Int.add_zero]
        obtain ⟨M1, d1, d2⟩ := ih (u + 1) g M o5 (by omega) cp (fun j j1 j2 => by rw [st j]; exact hm j j1 j2) g1 (by omega) (fun j j1 j2 => by rw [st j]; exact g3 j j1 j2) (by
          rcases g4 with g4 | ⟨j, j1, j2, j3⟩
          · exact Or.inl g4
          · exact Or.inr ⟨j, j1, j2, by rw [st j]; exact j3⟩)
        rw [Int.natCast_add, Int.natCast_one] at d1
        have hb0 : am_and (am_shr a (u : Int)) 1 = 0 := by omega
        refine ⟨M1, ?_, d2⟩
        rw [b_Si_greatestPart_26]
        simp (disch := omega) only [b_Si_greatestPart_33, b_Si_greatestPart_74, si0, si1, si2, si3, si4, si5, si6, si7, hb0, d1, am_ck_T, am_ck_t, am_cif_t, am_cif_f, am_cif_T, am_cif_F, am_then_s, am_push_s, am_push_n, true_and, and_true, true_or, or_true, Int.cast_ofNat_Int, am_02, am_22, not_true_eq_false, not_false_eq_true]
  obtain ⟨M1, d1, d2, d3⟩ := init 6 0 M (by omega) (by omega) (fun j j1 j2 => absurd j2 (by omega))
  obtain ⟨M2, f1, f2⟩ := loop 10 0 0 M1 none (by omega) (cP_fr d3 (by omega) cp) (fun j j1 j2 => d2 j j1 j2) (by omega) (by omega) (fun j _ _ => by show (0 : Int) ≤ 0; omega) (Or.inl rfl)
  have f1' : am_R 53 26 [some (am_r 146), some (am_i a), some (am_i l), some (am_i 0), some (am_i 0), none] [] S M1 = _ := f1
  refine ⟨M2, ?_, fr_tr d3 f2⟩
  simp (disch := omega) only [c_Si_greatestPart, b_Si_greatestPart_0, d1, b_Si_greatestPart_21, f1', am_ck_T, am_ck_t, am_cif_t, am_cif_f, am_cif_T, am_cif_F, am_then_s, am_push_s, am_push_n, true_and, and_true, true_or, or_true, Int.cast_ofNat_Int, am_02, am_22, not_true_eq_false, not_false_eq_true]
end LOOK2
