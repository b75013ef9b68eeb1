/-! lookAt: the greatest part -/
/-- how many of the first n are in the set and get off at k -/
noncomputable def vct (P : vP) (a l k : Int) (n : Nat) : Int := vsum (fun u => bo (am_and (am_shr a u) 1 = 1 ∧ vst2 P l u = k)) n 0
def vmx (f : Int → Int) : Int := max 0 (max (f 0) (max (f 1) (max (f 2) (max (f 3) (max (f 4) (f 5))))))
theorem vct_S (P : vP) (a l k : Int) (n : Nat) : vct P a l k (n + 1) = vct P a l k n + bo (am_and (am_shr a (n : Int)) 1 = 1 ∧ vst2 P l (n : Int) = k) := by
  unfold vct
  rw [vsum_end, Int.zero_add]
theorem vct_r (P : vP) (a l k : Int) (n : Nat) : 0 ≤ vct P a l k n ∧ vct P a l k n ≤ n := by
  unfold vct
  have := vsum_rng (f := fun u => bo (am_and (am_shr a u) 1 = 1 ∧ vst2 P l u = k)) (K := 1) (by omega) n 0 (fun j _ _ => bo_R _)
  omega
theorem vmx_e {f : Int → Int} {m : Int} (h0 : 0 ≤ m) (h1 : ∀ k, 0 ≤ k → k < 6 → f k ≤ m) (h2 : m = 0 ∨ ∃ k, 0 ≤ k ∧ k < 6 ∧ f k = m) : m = vmx f := by
  have a0 := h1 0 (by omega) (by omega)
  have a1 := h1 1 (by omega) (by omega)
  have a2 := h1 2 (by omega) (by omega)
  have a3 := h1 3 (by omega) (by omega)
  have a4 := h1 4 (by omega) (by omega)
  have a5 := h1 5 (by omega) (by omega)
  unfold vmx
  rcases h2 with h2 | ⟨k, k1, k2, k3⟩
  · omega
  · have : k = 0 ∨ k = 1 ∨ k = 2 ∨ k = 3 ∨ k = 4 ∨ k = 5 := by omega
    rcases this with rfl | rfl | rfl | rfl | rfl | rfl <;> omega
section LOOK
variable {S : am_S} {M M1 : am_M} {X : vX} {B : Int} {P : vP} {R : vR}
theorem m_greatestPart (hS : ly S) (hP : okP P) (mp : mP P M) {a l : Int} (h1 : 0 ≤ l) (h2 : l < vnl P) : am_call 170 [am_r 164, am_i l, am_i a] S M = some (some (am_i (vmx (fun k => vct P a l k 10))), S, M) := by
  obtain ⟨mo0, ⟨mr0, mr1, mr2, mr3, mr4, mr5, mr6, mr7, mr8, mr9, mr10, mr11⟩, mk0, mk1, mk2, mk3, mk4, mk5, mk6, mk7, mk8, mk9, mk10, mk11⟩ := hS.2.2.2.2.2.2.2.2.2.2
  have hP1 := hP.1
  have hP2 := hP.2.1
  have hP3 := hP.2.2.1
  have hP4 := hP.2.2.2.1
  have s1 := hP.2.2.2.2.1 l h1 h2
  have o1 := m_one (S := S) (M := M) (v := 1) (Or.inr rfl)
  have o0 := m_one (S := S) (M := M) (v := 0) (Or.inl rfl)
  have inner : ∀ (k g : Int), 0 ≤ k → k < 6 → ∀ (n : Nat) (u : Nat), u + n = 10 → am_R 170 18 [some (am_r 164), some (am_i l), some (am_i a), some (am_i g), some (am_i k), some (am_i (vct P a l k u)), some (am_i (u : Int))] [] S M = am_R 170 65 [some (am_r 164), some (am_i l), some (am_i a), some (am_i g), some (am_i k), some (am_i (vct P a l k 10)), some (am_i 10)] [] S M := by
    intro k g k1 k2 n
    induction n with
    | zero =>
      intro u hu
      obtain rfl : u = 10 := by omega
      rw [b_Mo_greatestPart_18]
      simp (disch := omega) only [am_ck_T, am_ck_t, am_cif_t, am_cif_f, am_cif_T, am_cif_F, am_then_s, am_push_s, am_push_n, true_and, and_true, true_or, or_true, Int.cast_ofNat_Int, am_02, am_22, not_true_eq_false, not_false_eq_true]
    | succ n ih =>
      intro u hu
      have ih1 := ih (u + 1) (by omega)
      rw [vct_S, Int.natCast_add, Int.natCast_one] at ih1
      have q1 := m_has (S := S) (M := M) a (u : Int)
      have q2 := m_getsOff hS hP mp h1 h2 (show (0 : Int) ≤ (u : Int) by omega) (show (u : Int) ≤ 9 by omega)
      have q3 : 0 ≤ vst2 P l (u : Int) ∧ vst2 P l (u : Int) ≤ vsz P l - 1 := vgo_r (by omega) (by omega) (by omega) (by omega)
      rw [b_Mo_greatestPart_18]
      by_cases hb : am_and (am_shr a (u : Int)) 1 = 1
      · rw [bo_t hb] at q1
        by_cases hk : vst2 P l (u : Int) = k
        · rw [bo_t ⟨hb, hk⟩] at ih1
          simp (disch := omega) only [b_Mo_greatestPart_25, b_Mo_greatestPart_33, b_Mo_greatestPart_36, b_Mo_greatestPart_43, b_Mo_greatestPart_48, b_Mo_greatestPart_53, b_Mo_greatestPart_56, mo0, mr0, mr1, mr2, mr3, mr4, mr5, mr6, mr7, mr8, mr9, mr10, mr11, mk0, mk1, mk2, mk3, mk4, mk5, mk6, mk7, mk8, mk9, mk10, mk11, q1, q2, o1, ih1, am_ck_T, am_ck_t, am_cif_t, am_cif_f, am_cif_T, am_cif_F, am_then_s, am_push_s, am_push_n, true_and, and_true, true_or, or_true, Int.cast_ofNat_Int, am_02, am_22, not_true_eq_false, not_false_eq_true]
        · rw [bo_f (fun z => hk z.2)] at ih1
          simp (disch := omega) only [b_Mo_greatestPart_25, b_Mo_greatestPart_33, b_Mo_greatestPart_36, b_Mo_greatestPart_43, b_Mo_greatestPart_52, b_Mo_greatestPart_53, b_Mo_greatestPart_56, mo0, mr0, mr1, mr2, mr3, mr4, mr5, mr6, mr7, mr8, mr9, mr10, mr11, mk0, mk1, mk2, mk3, mk4, mk5, mk6, mk7, mk8, mk9, mk10, mk11, q1, q2, o0, ih1, am_ck_T, am_ck_t, am_cif_t, am_cif_f, am_cif_T, am_cif_F, am_then_s, am_push_s, am_push_n, true_and, and_true, true_or, or_true, Int.cast_ofNat_Int, am_02, am_22, not_true_eq_false, not_false_eq_true]
      · rw [bo_f hb] at q1
        rw [bo_f (fun z => hb z.1)] at ih1
        simp (disch := omega) only [b_Mo_greatestPart_25, b_Mo_greatestPart_33, b_Mo_greatestPart_52, b_Mo_greatestPart_53, b_Mo_greatestPart_56, mo0, mr0, mr1, mr2, mr3, mr4, mr5, mr6, mr7, mr8, mr9, mr10, mr11, mk0, mk1, mk2, mk3, mk4, mk5, mk6, mk7, mk8, mk9, mk10, mk11, q1, o0, ih1, am_ck_T, am_ck_t, am_cif_t, am_cif_f, am_cif_T, am_cif_F, am_then_s, am_push_s, am_push_n, true_and, and_true, true_or, or_true, Int.cast_ofNat_Int, am_02, am_22, not_true_eq_false, not_false_eq_true]
  have loop : ∀ (n : Nat) (k g : Int) (o5 o6 : Option am_V), 0 ≤ k → k + n = 6 → 0 ≤ g → g ≤ 10 → (∀ j, 0 ≤ j → j < k → vct P a l j 10 ≤ g) → (g = 0 ∨ ∃ j, 0 ≤ j ∧ j < 6 ∧ vct P a l j 10 = g) → am_R 170 5 [some (am_r 164), some (am_i l), some (am_i a), some (am_i g), some (am_i k), o5, o6] [] S M = some (some (am_i (vmx (fun k => vct P a l k 10))), S, M) := by
    intro n
    induction n with
    | zero =>
      intro k g o5 o6 k1 k2 g1 g2 g3 g4
      have e := vmx_e (f := fun k => vct P a l k 10) g1 (fun j j1 j2 => g3 j j1 (by omega)) g4
      rw [← e, b_Mo_greatestPart_5]
      simp (disch := omega) only [b_Mo_greatestPart_84, am_ck_T, am_ck_t, am_cif_t, am_cif_f, am_cif_T, am_cif_F, am_then_s, am_push_s, am_push_n, true_and, and_true, true_or, or_true, Int.cast_ofNat_Int, am_02, am_22, not_true_eq_false, not_false_eq_true]
    | succ n ih =>
      intro k g o5 o6 k1 k2 g1 g2 g3 g4
      have q := inner k g k1 (by omega) 10 0 (by omega)
      have q' : am_R 170 18 [some (am_r 164), some (am_i l), some (am_i a), some (am_i g), some (am_i k), some (am_i 0), some (am_i 0)] [] S M = _ := q
      have r := vct_r P a l k 10
      rw [b_Mo_greatestPart_5]
      by_cases hg : vct P a l k 10 ≤ g
      · have g5 : ∀ j, 0 ≤ j → j < k + 1 → vct P a l j 10 ≤ g := by
          intro j j1 j2
          by_cases hj : j = k
          · rw [hj]; exact hg
          · exact g3 j j1 (by omega)
        have ih1 := ih (k + 1) g (some (am_i (vct P a l k 10))) (some (am_i 10)) (by omega) (by omega) g1 g2 g5 g4
        simp (disch := omega) only [b_Mo_greatestPart_12, q', b_Mo_greatestPart_65, b_Mo_greatestPart_76, b_Mo_greatestPart_77, ih1, am_ck_T, am_ck_t, am_cif_t, am_cif_f, am_cif_T, am_cif_F, am_then_s, am_push_s, am_push_n, true_and, and_true, true_or, or_true, Int.cast_ofNat_Int, am_02, am_22, not_true_eq_false, not_false_eq_true]
      · have g5 : ∀ j, 0 ≤ j → j < k + 1 → vct P a l j 10 ≤ vct P a l k 10 := by
          intro j j1 j2
          by_cases hj : j = k
          · rw [hj]; omega
          · have := g3 j j1 (by omega); omega
        have ih1 := ih (k + 1) (vct P a l k 10) (some (am_i (vct P a l k 10))) (some (am_i 10)) (by omega) (by omega) r.1 (by omega) g5 (Or.inr ⟨k, k1, by omega, rfl⟩)
        simp (disch := omega) only [b_Mo_greatestPart_12, q', b_Mo_greatestPart_65, b_Mo_greatestPart_71, b_Mo_greatestPart_77, ih1, am_ck_T, am_ck_t, am_cif_t, am_cif_f, am_cif_T, am_cif_F, am_then_s, am_push_s, am_push_n, true_and, and_true, true_or, or_true, Int.cast_ofNat_Int, am_02, am_22, not_true_eq_false, not_false_eq_true]
  have l0 := loop 6 0 0 none none (by omega) (by omega) (by omega) (by omega) (fun j j1 j2 => absurd j2 (by omega)) (Or.inl rfl)
  simp (disch := omega) only [c_Mo_greatestPart, b_Mo_greatestPart_0, l0, am_ck_T, am_ck_t, am_cif_t, am_cif_f, am_cif_T, am_cif_F, am_then_s, am_push_s, am_push_n, true_and, and_true, true_or, or_true, Int.cast_ofNat_Int, am_02, am_22, not_true_eq_false, not_false_eq_true]
end LOOK
