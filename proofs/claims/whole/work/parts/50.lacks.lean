/-! lacks -/
def vlo (P : vP) (R : vR) (p g l : Int) : Int := if vbp P R l (vgt R p) = -1 ∨ vpl P R l g ≤ vbp P R l (vgt R p) then -1 else vls P R p l (vpl P R l g - vbp P R l (vgt R p)).toNat (vbp P R l (vgt R p) + 1) 0
/-- the least, and its line, over the lines from l on -/
def vll (P : vP) (R : vR) (p g : Int) : Nat → Int → Int × Int → Int × Int
  | 0, _, s => s
  | n + 1, l, s => vll P R p g n (l + 1) (if vlo P R p g l ≠ -1 ∧ (s.1 = -1 ∨ vlo P R p g l < s.1) then (vlo P R p g l, l) else s)
section LACKS
variable {S : am_S} {M M1 : am_M} {X : vX} {B : Int} {P : vP} {R : vR}
theorem vlk_r2 (hP : okP P) (hR : okR P B R) {p l k : Int} (h1 : 0 ≤ l) (h2 : l < vnl P) (h3 : 0 ≤ p) (h4 : p < vnp P) (h5 : 0 ≤ k) (h6 : k < vsz P l) : 0 ≤ vlk P R p l k ∧ vlk P R p l k ≤ 18 ∧ 0 ≤ k * vfr P l ∧ k * vfr P l ≤ 18 := by
  have s1 := hP.2.2.2.2.1 l h1 h2
  have sr := vsp_rng hP hR h1 h2 h5 h6
  have n1 := hR.1 p _ h3 h4 sr.1 sr.2
  have m1 : 0 ≤ k * vfr P l := Int.mul_nonneg h5 s1.2.2.1
  have m2 : k * vfr P l ≤ 6 * 3 := Int.mul_le_mul (by omega) s1.2.2.2 s1.2.2.1 (by omega)
  unfold vlk
  omega
theorem vls_rng (hP : okP P) (hR : okR P B R) {p l : Int} (h1 : 0 ≤ l) (h2 : l < vnl P) (h3 : 0 ≤ p) (h4 : p < vnp P) : ∀ (n : Nat) (k s : Int), 0 ≤ k → k + n ≤ vsz P l → 0 ≤ s → 0 ≤ vls P R p l n k s ∧ vls P R p l n k s ≤ s + 18 * n := by
  intro n
  induction n with
  | zero => intro k s _ _ hs; exact ⟨hs, by unfold vls; omega⟩
  | succ n ih =>
    intro k s k1 k2 hs
    have v := vlk_r2 hP hR h1 h2 h3 h4 k1 (show k < vsz P l by omega)
    have a := ih (k + 1) (s + vlk P R p l k) (by omega) (by omega) (by omega)
    unfold vls
    omega
theorem vlo_rng (hP : okP P) (hR : okR P B R) {p g l : Int} (h1 : 0 ≤ l) (h2 : l < vnl P) (h3 : 0 ≤ p) (h4 : p < vnp P) : vlo P R p g l = -1 ∨ (0 ≤ vlo P R p g l ∧ vlo P R p g l ≤ 108) := by
  have s1 := hP.2.2.2.2.1 l h1 h2
  have r1 := vfi_rng (vsp P R l) g (vsz P l).toNat 0
  have r2 : vpl P R l g = -1 ∨ (0 ≤ vpl P R l g ∧ vpl P R l g < vsz P l) := by unfold vpl; omega
  have r3 := vfi_rng (vsp P R l) (vgt R p) (vsz P l).toNat 0
  have r4 : vpl P R l (vgt R p) = -1 ∨ (0 ≤ vpl P R l (vgt R p) ∧ vpl P R l (vgt R p) < vsz P l) := by unfold vpl; omega
  have r5 : vbp P R l (vgt R p) = -1 ∨ 0 ≤ vbp P R l (vgt R p) := by
    unfold vbp
    by_cases h : vpl P R l (vgt R p) = vsz P l - 1
    · rw [if_pos h]; exact Or.inl rfl
    · rw [if_neg h]; omega
  unfold vlo
  by_cases h : vbp P R l (vgt R p) = -1 ∨ vpl P R l g ≤ vbp P R l (vgt R p)
  · rw [if_pos h]; exact Or.inl rfl
  · rw [if_neg h]
    have a := vls_rng hP hR h1 h2 h3 h4 (vpl P R l g - vbp P R l (vgt R p)).toNat (vbp P R l (vgt R p) + 1) 0 (by omega) (by omega) (by omega)
    omega
theorem k_lackOn (hS : ly S) (hP : okP P) (hR : okR P B R) (cp : cP P M) (cr : cR P R 14 M) {p g l : Int} (h1 : 0 ≤ l) (h2 : l < vnl P) (h3 : 0 ≤ p) (h4 : p < vnp P) (h5 : 0 ≤ g) (h6 : g < vnp P) : am_call 21 [am_r 14, am_i p, am_i g, am_i l] S M = some (some (am_i (vlo P R p g l)), S, M) := by
  have lf14 : lf 14 := by unfold lf; omega
  obtain ⟨li0, li1, li2, li3, li4, li5, li6, li7⟩ := hS.2.2.2.2.1 14 lf14
  have hP1 := hP.1
  have hP2 := hP.2.1
  have hP3 := hP.2.2.1
  have hP4 := hP.2.2.2.1
  have s1 := hP.2.2.2.2.1 l h1 h2
  have g1 := (hR.2.1 p h3 h4).2
  have e1 := cr.2.1 p h3 h4
  have e2 := k_board hS lf14 hP hR cp cr h1 h2 g1.1 g1.2
  have e3 := k_place hS lf14 hP hR cp cr h1 h2 h5 h6
  have r1 := vfi_rng (vsp P R l) g (vsz P l).toNat 0
  have r2 : vpl P R l g = -1 ∨ (0 ≤ vpl P R l g ∧ vpl P R l g < vsz P l) := by unfold vpl; omega
  have r3 := vfi_rng (vsp P R l) (vgt R p) (vsz P l).toNat 0
  have r4 : vpl P R l (vgt R p) = -1 ∨ (0 ≤ vpl P R l (vgt R p) ∧ vpl P R l (vgt R p) < vsz P l) := by unfold vpl; omega
  have r5 : vbp P R l (vgt R p) = -1 ∨ (0 ≤ vbp P R l (vgt R p) ∧ vbp P R l (vgt R p) < vsz P l) := by
    unfold vbp
    by_cases h : vpl P R l (vgt R p) = vsz P l - 1
    · rw [if_pos h]; exact Or.inl rfl
    · rw [if_neg h]; omega
  unfold vlo
  generalize vbp P R l (vgt R p) = fm at e2 r5 ⊢
  generalize vpl P R l g = tt at e3 r2 ⊢
  by_cases ha : fm = -1
  · rw [if_pos (Or.inl ha)]
    subst ha
    simp (disch := omega) only [c_Li_lackOn, b_Li_lackOn_0, b_Li_lackOn_11, b_Li_lackOn_19, b_Li_lackOn_34, li0, li1, li2, li3, li4, li5, li6, li7, e1, e2, e3, am_ck_T, am_ck_t, am_cif_t, am_cif_f, am_cif_T, am_cif_F, am_then_s, am_push_s, am_push_n, true_and, and_true, true_or, or_true, Int.cast_ofNat_Int, am_02, am_22, not_true_eq_false, not_false_eq_true]
  · by_cases hb : tt ≤ fm
    · rw [if_pos (Or.inr hb)]
      simp (disch := omega) only [c_Li_lackOn, b_Li_lackOn_0, b_Li_lackOn_11, b_Li_lackOn_19, b_Li_lackOn_27, b_Li_lackOn_34, li0, li1, li2, li3, li4, li5, li6, li7, e1, e2, e3, am_ck_T, am_ck_t, am_cif_t, am_cif_f, am_cif_T, am_cif_F, am_then_s, am_push_s, am_push_n, true_and, and_true, true_or, or_true, Int.cast_ofNat_Int, am_02, am_22, not_true_eq_false, not_false_eq_true]
    · rw [if_neg (by omega)]
      have loop : ∀ (n : Nat) (k s : Int), fm + 1 ≤ k → k + n = tt + 1 → am_R 21 45 [some (am_r 14), some (am_i p), some (am_i g), some (am_i l), some (am_i fm), some (am_i tt), some (am_i s), some (am_i k)] [] S M = some (some (am_i (vls P R p l n k s)), S, M) := by
        intro n
        induction n with
        | zero =>
          intro k s k1 k2
          rw [b_Li_lackOn_45]
          simp (disch := omega) only [b_Li_lackOn_71, vls, am_ck_T, am_ck_t, am_cif_t, am_cif_f, am_cif_T, am_cif_F, am_then_s, am_push_s, am_push_n, true_and, and_true, true_or, or_true, Int.cast_ofNat_Int, am_02, am_22, not_true_eq_false, not_false_eq_true]
        | succ n ih =>
          intro k s k1 k2
          have q1 := k_lackAt hS lf14 hP hR cp cr h1 h2 h3 h4 (show 0 ≤ k by omega) (show k < vsz P l by omega)
          have ih1 := ih (k + 1) (s + vlk P R p l k) (by omega) (by omega)
          rw [b_Li_lackOn_45]
          simp (disch := omega) only [b_Li_lackOn_52, b_Li_lackOn_62, li0, q1, ih1, vls, am_ck_T, am_ck_t, am_cif_t, am_cif_f, am_cif_T, am_cif_F, am_then_s, am_push_s, am_push_n, true_and, and_true, true_or, or_true, Int.cast_ofNat_Int, am_02, am_22, not_true_eq_false, not_false_eq_true]
      have l0 := loop (tt - fm).toNat (fm + 1) 0 (by omega) (by omega)
      simp (disch := omega) only [c_Li_lackOn, b_Li_lackOn_0, b_Li_lackOn_11, b_Li_lackOn_19, b_Li_lackOn_27, b_Li_lackOn_36, li0, li1, li2, li3, li4, li5, li6, li7, e1, e2, e3, l0, am_ck_T, am_ck_t, am_cif_t, am_cif_f, am_cif_T, am_cif_F, am_then_s, am_push_s, am_push_n, true_and, and_true, true_or, or_true, Int.cast_ofNat_Int, am_02, am_22, not_true_eq_false, not_false_eq_true]
theorem m_lacksBy (hS : ly S) (hP : okP P) (hR : okR P B R) (mp : mP P M) (mr : mR P R 0 M) {p g l : Int} (h1 : 0 ≤ l) (h2 : l < vnl P) (h3 : 0 ≤ p) (h4 : p < vnp P) (h5 : 0 ≤ g) (h6 : g < vnp P) : am_call 158 [am_r 164, am_i p, am_i g, am_i l] S M = some (some (am_i (if vlo P R p g l = -1 then 99999999 else vlo P R p g l)), S, M) := by
  obtain ⟨mo0, ⟨mr0, mr1, mr2, mr3, mr4, mr5, mr6, mr7, mr8, mr9, mr10, mr11⟩, mk0, mk1, mk2, mk3, mk4, mk5, mk6, mk7, mk8, mk9, mk10, mk11⟩ := hS.2.2.2.2.2.2.2.2.2.2
  have hP1 := hP.1
  have hP2 := hP.2.1
  have hP3 := hP.2.2.1
  have hP4 := hP.2.2.2.1
  have s1 := hP.2.2.2.2.1 l h1 h2
  have g1 := (hR.2.1 p h3 h4).2
  have e1 : M 165 (64 + p) = vgt R p := mr.2.1 p h3 h4
  have e2 := m_where hS hP hR mp mr (by omega) h1 h2 g1.1 g1.2
  have e3 := m_where hS hP hR mp mr (by omega) h1 h2 h5 h6
  have e4 := (mp.2.2.1 l h1 h2).2
  have r1 := vfi_rng (vsp P R l) g (vsz P l).toNat 0
  have r2 : vpl P R l g = -1 ∨ (0 ≤ vpl P R l g ∧ vpl P R l g < vsz P l) := by unfold vpl; omega
  have r3 := vfi_rng (vsp P R l) (vgt R p) (vsz P l).toNat 0
  have r4 : vpl P R l (vgt R p) = -1 ∨ (0 ≤ vpl P R l (vgt R p) ∧ vpl P R l (vgt R p) < vsz P l) := by unfold vpl; omega
  have lo := vlo_rng (g := g) hP hR h1 h2 h3 h4
  have key : vlo P R p g l = if vpl P R l (vgt R p) = -1 ∨ vpl P R l g ≤ vpl P R l (vgt R p) then -1 else vls P R p l (vpl P R l g - vpl P R l (vgt R p)).toNat (vpl P R l (vgt R p) + 1) 0 := by
    unfold vlo vbp
    by_cases h : vpl P R l (vgt R p) = vsz P l - 1
    · rw [if_pos h, if_pos (Or.inl rfl), if_pos (by omega)]
    · rw [if_neg h]
  have pos : ¬ (vpl P R l (vgt R p) = -1 ∨ vpl P R l g ≤ vpl P R l (vgt R p)) → 0 ≤ vls P R p l (vpl P R l g - vpl P R l (vgt R p)).toNat (vpl P R l (vgt R p) + 1) 0 := fun h => (vls_rng hP hR h1 h2 h3 h4 _ _ 0 (by omega) (by omega) (by omega)).1
  rw [key]
  generalize vpl P R l (vgt R p) = fm at e2 r4 pos ⊢
  generalize vpl P R l g = tt at e3 r2 pos ⊢
  by_cases ha : fm = -1
  · rw [if_pos (Or.inl ha), if_pos rfl]
    subst ha
    simp (disch := omega) only [c_Mo_lacksBy, b_Mo_lacksBy_0, b_Mo_lacksBy_15, b_Mo_lacksBy_24, b_Mo_lacksBy_45, mo0, mr0, mr1, mr2, mr3, mr4, mr5, mr6, mr7, mr8, mr9, mr10, mr11, mk0, mk1, mk2, mk3, mk4, mk5, mk6, mk7, mk8, mk9, mk10, mk11, e1, e2, e3, am_ck_T, am_ck_t, am_cif_t, am_cif_f, am_cif_T, am_cif_F, am_then_s, am_push_s, am_push_n, true_and, and_true, true_or, or_true, Int.cast_ofNat_Int, am_02, am_22, not_true_eq_false, not_false_eq_true]
  · by_cases hb : tt ≤ fm
    · rw [if_pos (Or.inr hb), if_pos rfl]
      by_cases hc : tt = -1
      · subst hc
        simp (disch := omega) only [c_Mo_lacksBy, b_Mo_lacksBy_0, b_Mo_lacksBy_15, b_Mo_lacksBy_24, b_Mo_lacksBy_32, b_Mo_lacksBy_45, mo0, mr0, mr1, mr2, mr3, mr4, mr5, mr6, mr7, mr8, mr9, mr10, mr11, mk0, mk1, mk2, mk3, mk4, mk5, mk6, mk7, mk8, mk9, mk10, mk11, e1, e2, e3, am_ck_T, am_ck_t, am_cif_t, am_cif_f, am_cif_T, am_cif_F, am_then_s, am_push_s, am_push_n, true_and, and_true, true_or, or_true, Int.cast_ofNat_Int, am_02, am_22, not_true_eq_false, not_false_eq_true]
      · simp (disch := omega) only [c_Mo_lacksBy, b_Mo_lacksBy_0, b_Mo_lacksBy_15, b_Mo_lacksBy_24, b_Mo_lacksBy_32, b_Mo_lacksBy_38, b_Mo_lacksBy_45, mo0, mr0, mr1, mr2, mr3, mr4, mr5, mr6, mr7, mr8, mr9, mr10, mr11, mk0, mk1, mk2, mk3, mk4, mk5, mk6, mk7, mk8, mk9, mk10, mk11, e1, e2, e3, am_ck_T, am_ck_t, am_cif_t, am_cif_f, am_cif_T, am_cif_F, am_then_s, am_push_s, am_push_n, true_and, and_true, true_or, or_true, Int.cast_ofNat_Int, am_02, am_22, not_true_eq_false, not_false_eq_true]
    · have pp := pos (by omega)
      rw [if_neg (show ¬ (fm = -1 ∨ tt ≤ fm) by omega), if_neg (by omega)]
      have loop : ∀ (n : Nat) (k s : Int) (o : Option am_V), fm + 1 ≤ k → k + n = tt + 1 → am_R 158 57 [some (am_r 164), some (am_i p), some (am_i g), some (am_i l), some (am_i fm), some (am_i tt), some (am_i s), some (am_i k), o] [] S M = some (some (am_i (vls P R p l n k s)), S, M) := by
        intro n
        induction n with
        | zero =>
          intro k s o k1 k2
          rw [b_Mo_lacksBy_57]
          simp (disch := omega) only [b_Mo_lacksBy_112, vls, am_ck_T, am_ck_t, am_cif_t, am_cif_f, am_cif_T, am_cif_F, am_then_s, am_push_s, am_push_n, true_and, and_true, true_or, or_true, Int.cast_ofNat_Int, am_02, am_22, not_true_eq_false, not_false_eq_true]
        | succ n ih =>
          intro k s o k1 k2
          have hk : 0 ≤ k := by omega
          have hk2 : k < vsz P l := by omega
          have v := vlk_r2 hP hR h1 h2 h3 h4 hk hk2
          have sr := vsp_rng hP hR h1 h2 hk hk2
          have n1 := hR.1 p _ h3 h4 sr.1 sr.2
          have q1 := m_stop hS hP mp mr (by omega) h1 h2 hk hk2
          have q2 := m_near hS hP mr (by omega) h3 h4 sr.1 sr.2
          have dv : vlk P R p l k = max 0 (k * vfr P l - vnr R p (vsp P R l k)) := rfl
          have ih1 := ih (k + 1) (s + vlk P R p l k) (some (am_i (k * vfr P l - vnr R p (vsp P R l k)))) (by omega) (by omega)
          rw [b_Mo_lacksBy_57]
          by_cases hz : k * vfr P l - vnr R p (vsp P R l k) ≤ 0
          · have z : vlk P R p l k = 0 := by omega
            rw [z] at ih1
            simp (disch := omega) only [b_Mo_lacksBy_64, b_Mo_lacksBy_84, b_Mo_lacksBy_87, b_Mo_lacksBy_102, b_Mo_lacksBy_103, mo0, mr0, mr1, mr2, mr3, mr4, mr5, mr6, mr7, mr8, mr9, mr10, mr11, mk0, mk1, mk2, mk3, mk4, mk5, mk6, mk7, mk8, mk9, mk10, mk11, e4, q1, q2, am_cif_t hz, ih1, vls, z, am_ck_T, am_ck_t, am_cif_t, am_cif_f, am_cif_T, am_cif_F, am_then_s, am_push_s, am_push_n, true_and, and_true, true_or, or_true, Int.cast_ofNat_Int, am_02, am_22, not_true_eq_false, not_false_eq_true]
          · have z : vlk P R p l k = k * vfr P l - vnr R p (vsp P R l k) := by omega
            rw [z] at ih1
            simp (disch := omega) only [b_Mo_lacksBy_64, b_Mo_lacksBy_84, b_Mo_lacksBy_87, b_Mo_lacksBy_97, b_Mo_lacksBy_103, mo0, mr0, mr1, mr2, mr3, mr4, mr5, mr6, mr7, mr8, mr9, mr10, mr11, mk0, mk1, mk2, mk3, mk4, mk5, mk6, mk7, mk8, mk9, mk10, mk11, e4, q1, q2, am_cif_f hz, ih1, vls, z, am_ck_T, am_ck_t, am_cif_t, am_cif_f, am_cif_T, am_cif_F, am_then_s, am_push_s, am_push_n, true_and, and_true, true_or, or_true, Int.cast_ofNat_Int, am_02, am_22, not_true_eq_false, not_false_eq_true]
      have l0 := loop (tt - fm).toNat (fm + 1) 0 none (by omega) (by omega)
      simp (disch := omega) only [c_Mo_lacksBy, b_Mo_lacksBy_0, b_Mo_lacksBy_15, b_Mo_lacksBy_24, b_Mo_lacksBy_32, b_Mo_lacksBy_38, b_Mo_lacksBy_48, mo0, mr0, mr1, mr2, mr3, mr4, mr5, mr6, mr7, mr8, mr9, mr10, mr11, mk0, mk1, mk2, mk3, mk4, mk5, mk6, mk7, mk8, mk9, mk10, mk11, e1, e2, e3, l0, am_ck_T, am_ck_t, am_cif_t, am_cif_f, am_cif_T, am_cif_F, am_then_s, am_push_s, am_push_n, true_and, and_true, true_or, or_true, Int.cast_ofNat_Int, am_02, am_22, not_true_eq_false, not_false_eq_true]
end LACKS
