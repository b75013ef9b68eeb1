/-! the reference: what is read -/
/-- the reference's plan -/
def mP (P : vP) (M : am_M) : Prop := M 164 6 = vnp P ∧ M 164 8 = vnl P ∧ (∀ l, 0 ≤ l → l < vnl P → M 169 l = vsz P l ∧ M 170 l = vfr P l) ∧ (∀ l k, 0 ≤ l → l < vnl P → 0 ≤ k → k < vsz P l → M 168 (6 * l + k) = vst P l k)
/-- a row of the reference, from place x on -/
def mR (P : vP) (R : vR) (x : Int) (M : am_M) : Prop := (∀ p q, 0 ≤ p → p < vnp P → 0 ≤ q → q < vnp P → M 165 (x + 8 * p + q) = vnr R p q) ∧ (∀ p, 0 ≤ p → p < vnp P → M 165 (x + 64 + p) = vgt R p) ∧ (∀ l, 0 ≤ l → l < vnl P → M 165 (x + 72 + l) = ven R l) ∧ M 165 (x + 78) = vdd R ∧ M 165 (x + 80) = vrd R ∧ M 165 (x + 79) = vdy R
theorem am_bit_01 (t : Int) : am_and t 1 = 0 ∨ am_and t 1 = 1 := by
  unfold am_and
  obtain ⟨j, hj, e⟩ := pk_andE (Int32.ofInt t) (m := Int32.ofInt 1) 1 (by decide)
  rw [e]
  match j, hj with
  | 0, _ => exact Or.inl (by decide)
  | 1, _ => exact Or.inr (by decide)
theorem am_cmp_lt (x y : Int) : (am_cmp x y < 0) = (x < y) := by
  unfold am_cmp
  by_cases h : x < y
  · rw [if_pos h]; simp [h]
  · rw [if_neg h]
    by_cases h2 : x = y
    · rw [if_pos h2]; simp [h]
    · rw [if_neg h2]; simp [h]
theorem am_cmp_gt (x y : Int) : (0 < am_cmp x y) = (y < x) := by
  unfold am_cmp
  by_cases h : x < y
  · rw [if_pos h]; simp; omega
  · rw [if_neg h]
    by_cases h2 : x = y
    · rw [if_pos h2]; simp; omega
    · rw [if_neg h2]; simp; omega
theorem am_cmp_R (x y : Int) : am_Ri (am_cmp x y) := by
  unfold am_cmp
  by_cases h : x < y
  · rw [if_pos h]; exact ⟨by omega, by omega⟩
  · rw [if_neg h]
    by_cases h2 : x = y
    · rw [if_pos h2]; exact ⟨by omega, by omega⟩
    · rw [if_neg h2]; exact ⟨by omega, by omega⟩
section MODEL
variable {S : am_S} {M : am_M} {P : vP} {R : vR} {B : Int} {x : Int}
theorem m_in {v lo hi : Int} (h1 : am_Rl v) (h2 : am_Rl lo) (h3 : am_Rl hi) : am_call 105 [am_l v, am_l lo, am_l hi] S M = some (some (am_i (bo (lo ≤ v ∧ v ≤ hi))), S, M) := by
  have r1 := am_cmp_R v lo
  have r2 := am_cmp_R v hi
  by_cases a : v < lo
  · simp (disch := omega) only [c_Mo_in, b_Mo_in_0, b_Mo_in_6, b_Mo_in_13, b_Mo_in_17, b_Mo_in_18, am_cmp_lt, am_cmp_gt, bo_f (show ¬ (lo ≤ v ∧ v ≤ hi) by omega), am_ck_T, am_ck_t, am_cif_t, am_cif_f, am_cif_T, am_cif_F, am_then_s, am_push_s, am_push_n, true_and, and_true, true_or, or_true, Int.cast_ofNat_Int, am_02, am_22, not_true_eq_false, not_false_eq_true]
  · by_cases c : hi < v
    · simp (disch := omega) only [c_Mo_in, b_Mo_in_0, b_Mo_in_6, b_Mo_in_13, b_Mo_in_17, b_Mo_in_18, am_cmp_lt, am_cmp_gt, bo_f (show ¬ (lo ≤ v ∧ v ≤ hi) by omega), am_ck_T, am_ck_t, am_cif_t, am_cif_f, am_cif_T, am_cif_F, am_then_s, am_push_s, am_push_n, true_and, and_true, true_or, or_true, Int.cast_ofNat_Int, am_02, am_22, not_true_eq_false, not_false_eq_true]
    · simp (disch := omega) only [c_Mo_in, b_Mo_in_0, b_Mo_in_6, b_Mo_in_13, b_Mo_in_17, b_Mo_in_18, am_cmp_lt, am_cmp_gt, bo_t (show lo ≤ v ∧ v ≤ hi by omega), am_ck_T, am_ck_t, am_cif_t, am_cif_f, am_cif_T, am_cif_F, am_then_s, am_push_s, am_push_n, true_and, and_true, true_or, or_true, Int.cast_ofNat_Int, am_02, am_22, not_true_eq_false, not_false_eq_true]
theorem m_one {v : Int} (h : v = 0 ∨ v = 1) : am_call 106 [am_i v] S M = some (some (am_i v), S, M) := by
  rcases h with rfl | rfl
  · simp (disch := omega) only [c_Mo_one, b_Mo_one_0, b_Mo_one_4, b_Mo_one_8, b_Mo_one_9, am_ck_T, am_ck_t, am_cif_t, am_cif_f, am_cif_T, am_cif_F, am_then_s, am_push_s, am_push_n, true_and, and_true, true_or, or_true, Int.cast_ofNat_Int, am_02, am_22, not_true_eq_false, not_false_eq_true]
  · simp (disch := omega) only [c_Mo_one, b_Mo_one_0, b_Mo_one_4, b_Mo_one_8, b_Mo_one_9, am_ck_T, am_ck_t, am_cif_t, am_cif_f, am_cif_T, am_cif_F, am_then_s, am_push_s, am_push_n, true_and, and_true, true_or, or_true, Int.cast_ofNat_Int, am_02, am_22, not_true_eq_false, not_false_eq_true]
theorem m_has (s k : Int) : am_call 107 [am_i s, am_i k] S M = some (some (am_i (bo (am_and (am_shr s k) 1 = 1))), S, M) := by
  have r1 := am_and_R (am_shr s k) 1
  by_cases h : am_and (am_shr s k) 1 = 1
  · rw [bo_t h]
    simp (disch := omega) only [c_Mo_has, b_Mo_has_0, b_Mo_has_9, b_Mo_has_13, b_Mo_has_14, h, not_true, am_ck_T, am_ck_t, am_cif_t, am_cif_f, am_cif_T, am_cif_F, am_then_s, am_push_s, am_push_n, true_and, and_true, true_or, or_true, Int.cast_ofNat_Int, am_02, am_22, not_true_eq_false, not_false_eq_true]
  · simp (disch := omega) only [c_Mo_has, b_Mo_has_0, b_Mo_has_9, b_Mo_has_13, b_Mo_has_14, bo_f h, am_ck_T, am_ck_t, am_cif_t, am_cif_f, am_cif_T, am_cif_F, am_then_s, am_push_s, am_push_n, true_and, and_true, true_or, or_true, Int.cast_ofNat_Int, am_02, am_22, not_true_eq_false, not_false_eq_true]
theorem m_isPerson (hS : ly S) (hP : okP P) (mp : mP P M) {p : Int} (h : am_Ri p) : am_call 121 [am_r 164, am_i p] S M = some (some (am_i (bo (0 ≤ p ∧ p < vnp P))), S, M) := by
  obtain ⟨mo0, ⟨mr0, mr1, mr2, mr3, mr4, mr5, mr6, mr7, mr8, mr9, mr10, mr11⟩, mk0, mk1, mk2, mk3, mk4, mk5, mk6, mk7, mk8, mk9, mk10, mk11⟩ := hS.2.2.2.2.2.2.2.2.2.2
  have hP1 := hP.1
  have hP2 := hP.2.1
  have hP3 := hP.2.2.1
  have hP4 := hP.2.2.2.1
  have e1 := mp.1
  have e0 := m_in (S := S) (M := M) (v := p) (lo := 0) (hi := vnp P - 1) ⟨by omega, by omega⟩ ⟨by omega, by omega⟩ ⟨by omega, by omega⟩
  have r := bo_01 (0 ≤ p ∧ p ≤ vnp P - 1)
  rw [show bo (0 ≤ p ∧ p < vnp P) = bo (0 ≤ p ∧ p ≤ vnp P - 1) from bo_c (by omega)]
  simp (disch := omega) only [c_Mo_isPerson, b_Mo_isPerson_0, b_Mo_isPerson_13, mo0, mr0, mr1, mr2, mr3, mr4, mr5, mr6, mr7, mr8, mr9, mr10, mr11, mk0, mk1, mk2, mk3, mk4, mk5, mk6, mk7, mk8, mk9, mk10, mk11, e1, e0, am_ck_T, am_ck_t, am_cif_t, am_cif_f, am_cif_T, am_cif_F, am_then_s, am_push_s, am_push_n, true_and, and_true, true_or, or_true, Int.cast_ofNat_Int, am_02, am_22, not_true_eq_false, not_false_eq_true]
theorem m_isLine (hS : ly S) (hP : okP P) (mp : mP P M) {p : Int} (h : am_Ri p) : am_call 122 [am_r 164, am_i p] S M = some (some (am_i (bo (0 ≤ p ∧ p < vnl P))), S, M) := by
  obtain ⟨mo0, ⟨mr0, mr1, mr2, mr3, mr4, mr5, mr6, mr7, mr8, mr9, mr10, mr11⟩, mk0, mk1, mk2, mk3, mk4, mk5, mk6, mk7, mk8, mk9, mk10, mk11⟩ := hS.2.2.2.2.2.2.2.2.2.2
  have hP1 := hP.1
  have hP2 := hP.2.1
  have hP3 := hP.2.2.1
  have hP4 := hP.2.2.2.1
  have e1 := mp.2.1
  have e0 := m_in (S := S) (M := M) (v := p) (lo := 0) (hi := vnl P - 1) ⟨by omega, by omega⟩ ⟨by omega, by omega⟩ ⟨by omega, by omega⟩
  have r := bo_01 (0 ≤ p ∧ p ≤ vnl P - 1)
  rw [show bo (0 ≤ p ∧ p < vnl P) = bo (0 ≤ p ∧ p ≤ vnl P - 1) from bo_c (by omega)]
  simp (disch := omega) only [c_Mo_isLine, b_Mo_isLine_0, b_Mo_isLine_13, mo0, mr0, mr1, mr2, mr3, mr4, mr5, mr6, mr7, mr8, mr9, mr10, mr11, mk0, mk1, mk2, mk3, mk4, mk5, mk6, mk7, mk8, mk9, mk10, mk11, e1, e0, am_ck_T, am_ck_t, am_cif_t, am_cif_f, am_cif_T, am_cif_F, am_then_s, am_push_s, am_push_n, true_and, and_true, true_or, or_true, Int.cast_ofNat_Int, am_02, am_22, not_true_eq_false, not_false_eq_true]
theorem m_near (hS : ly S) (hP : okP P) (mr : mR P R x M) (hx : 0 ≤ x ∧ x ≤ 2706) {p q : Int} (h1 : 0 ≤ p) (h2 : p < vnp P) (h3 : 0 ≤ q) (h4 : q < vnp P) : am_call 123 [am_r 164, am_i x, am_i p, am_i q] S M = some (some (am_i (vnr R p q)), S, M) := by
  obtain ⟨mo0, ⟨mr0, mr1, mr2, mr3, mr4, mr5, mr6, mr7, mr8, mr9, mr10, mr11⟩, mk0, mk1, mk2, mk3, mk4, mk5, mk6, mk7, mk8, mk9, mk10, mk11⟩ := hS.2.2.2.2.2.2.2.2.2.2
  have hP1 := hP.1
  have hP2 := hP.2.1
  have hP3 := hP.2.2.1
  have hP4 := hP.2.2.2.1
  have e1 := mr.1 p q h1 h2 h3 h4
  simp (disch := omega) only [c_Mo_nearIn, b_Mo_nearIn_0, mo0, mr0, mr1, mr2, mr3, mr4, mr5, mr6, mr7, mr8, mr9, mr10, mr11, mk0, mk1, mk2, mk3, mk4, mk5, mk6, mk7, mk8, mk9, mk10, mk11, e1, am_ck_T, am_ck_t, am_cif_t, am_cif_f, am_cif_T, am_cif_F, am_then_s, am_push_s, am_push_n, true_and, and_true, true_or, or_true, Int.cast_ofNat_Int, am_02, am_22, not_true_eq_false, not_false_eq_true]
theorem m_stop (hS : ly S) (hP : okP P) (mp : mP P M) (mr : mR P R x M) (hx : 0 ≤ x ∧ x ≤ 2706) {l k : Int} (h1 : 0 ≤ l) (h2 : l < vnl P) (h3 : 0 ≤ k) (h4 : k < vsz P l) : am_call 125 [am_r 164, am_i x, am_i l, am_i k] S M = some (some (am_i (vsp P R l k)), S, M) := by
  obtain ⟨mo0, ⟨mr0, mr1, mr2, mr3, mr4, mr5, mr6, mr7, mr8, mr9, mr10, mr11⟩, mk0, mk1, mk2, mk3, mk4, mk5, mk6, mk7, mk8, mk9, mk10, mk11⟩ := hS.2.2.2.2.2.2.2.2.2.2
  have hP1 := hP.1
  have hP2 := hP.2.1
  have hP3 := hP.2.2.1
  have hP4 := hP.2.2.2.1
  have s1 := hP.2.2.2.2.1 l h1 h2
  have e1 := (mp.2.2.1 l h1 h2).1
  have e2 := mr.2.2.1 l h1 h2
  have e3 := mp.2.2.2 l k h1 h2 h3 h4
  unfold vsp
  by_cases hk : k = vsz P l - 1
  · simp (disch := omega) only [c_Mo_stopIn, b_Mo_stopIn_0, b_Mo_stopIn_12, b_Mo_stopIn_26, b_Mo_stopIn_37, mo0, mr0, mr1, mr2, mr3, mr4, mr5, mr6, mr7, mr8, mr9, mr10, mr11, mk0, mk1, mk2, mk3, mk4, mk5, mk6, mk7, mk8, mk9, mk10, mk11, e1, e2, if_pos hk, am_ck_T, am_ck_t, am_cif_t, am_cif_f, am_cif_T, am_cif_F, am_then_s, am_push_s, am_push_n, true_and, and_true, true_or, or_true, Int.cast_ofNat_Int, am_02, am_22, not_true_eq_false, not_false_eq_true]
  · simp (disch := omega) only [c_Mo_stopIn, b_Mo_stopIn_0, b_Mo_stopIn_12, b_Mo_stopIn_26, b_Mo_stopIn_37, mo0, mr0, mr1, mr2, mr3, mr4, mr5, mr6, mr7, mr8, mr9, mr10, mr11, mk0, mk1, mk2, mk3, mk4, mk5, mk6, mk7, mk8, mk9, mk10, mk11, e1, e3, if_neg hk, am_ck_T, am_ck_t, am_cif_t, am_cif_f, am_cif_T, am_cif_F, am_then_s, am_push_s, am_push_n, true_and, and_true, true_or, or_true, Int.cast_ofNat_Int, am_02, am_22, not_true_eq_false, not_false_eq_true]
theorem m_where (hS : ly S) (hP : okP P) (hR : okR P B R) (mp : mP P M) (mr : mR P R x M) (hx : 0 ≤ x ∧ x ≤ 2706) {l g : Int} (h1 : 0 ≤ l) (h2 : l < vnl P) (h3 : 0 ≤ g) (h4 : g < vnp P) : am_call 126 [am_r 164, am_i x, am_i l, am_i g] S M = some (some (am_i (vpl P R l g)), S, M) := by
  have hP1 := hP.1
  have hP2 := hP.2.1
  have hP3 := hP.2.2.1
  have hP4 := hP.2.2.2.1
  have s1 := hP.2.2.2.2.1 l h1 h2
  have e1 := (mp.2.2.1 l h1 h2).1
  have key : ∀ (n : Nat) (i : Int), 0 ≤ i → i + n = vsz P l → am_R 126 3 [some (am_r 164), some (am_i x), some (am_i l), some (am_i g), some (am_i i)] [] S M = some (some (am_i (vfi (vsp P R l) g n i)), S, M) := by
    obtain ⟨mo0, ⟨mr0, mr1, mr2, mr3, mr4, mr5, mr6, mr7, mr8, mr9, mr10, mr11⟩, mk0, mk1, mk2, mk3, mk4, mk5, mk6, mk7, mk8, mk9, mk10, mk11⟩ := hS.2.2.2.2.2.2.2.2.2.2
    intro n
    induction n with
    | zero =>
      intro i hi hn
      simp (disch := omega) only [b_Mo_whereIn_3, b_Mo_whereIn_35, mo0, mr0, mr1, mr2, mr3, mr4, mr5, mr6, mr7, mr8, mr9, mr10, mr11, mk0, mk1, mk2, mk3, mk4, mk5, mk6, mk7, mk8, mk9, mk10, mk11, e1, vfi, am_ck_T, am_ck_t, am_cif_t, am_cif_f, am_cif_T, am_cif_F, am_then_s, am_push_s, am_push_n, true_and, and_true, true_or, or_true, Int.cast_ofNat_Int, am_02, am_22, not_true_eq_false, not_false_eq_true]
    | succ n ih =>
      intro i hi hn
      have st := m_stop hS hP mp mr hx h1 h2 hi (show i < vsz P l by omega)
      have sr := vsp_rng hP hR h1 h2 hi (show i < vsz P l by omega)
      have ih1 := ih (i + 1) (by omega) (by omega)
      unfold vfi
      by_cases hq : vsp P R l i = g
      · simp (disch := omega) only [b_Mo_whereIn_3, b_Mo_whereIn_14, b_Mo_whereIn_22, b_Mo_whereIn_26, mo0, mr0, mr1, mr2, mr3, mr4, mr5, mr6, mr7, mr8, mr9, mr10, mr11, mk0, mk1, mk2, mk3, mk4, mk5, mk6, mk7, mk8, mk9, mk10, mk11, e1, st, if_pos hq, am_ck_T, am_ck_t, am_cif_t, am_cif_f, am_cif_T, am_cif_F, am_then_s, am_push_s, am_push_n, true_and, and_true, true_or, or_true, Int.cast_ofNat_Int, am_02, am_22, not_true_eq_false, not_false_eq_true]
      · simp (disch := omega) only [b_Mo_whereIn_3, b_Mo_whereIn_14, b_Mo_whereIn_22, b_Mo_whereIn_29, mo0, mr0, mr1, mr2, mr3, mr4, mr5, mr6, mr7, mr8, mr9, mr10, mr11, mk0, mk1, mk2, mk3, mk4, mk5, mk6, mk7, mk8, mk9, mk10, mk11, e1, st, if_neg hq, ih1, am_ck_T, am_ck_t, am_cif_t, am_cif_f, am_cif_T, am_cif_F, am_then_s, am_push_s, am_push_n, true_and, and_true, true_or, or_true, Int.cast_ofNat_Int, am_02, am_22, not_true_eq_false, not_false_eq_true]
  rw [c_Mo_whereIn, b_Mo_whereIn_0, key (vsz P l).toNat 0 (by omega) (by omega)]
  rfl
theorem m_canBoard (hS : ly S) (hP : okP P) (hR : okR P B R) (mp : mP P M) (mr : mR P R x M) (hx : 0 ≤ x ∧ x ≤ 2706) {l g : Int} (h1 : 0 ≤ l) (h2 : l < vnl P) (h3 : 0 ≤ g) (h4 : g < vnp P) : am_call 127 [am_r 164, am_i x, am_i l, am_i g] S M = some (some (am_i (bo (vbp P R l g ≠ -1))), S, M) := by
  obtain ⟨mo0, ⟨mr0, mr1, mr2, mr3, mr4, mr5, mr6, mr7, mr8, mr9, mr10, mr11⟩, mk0, mk1, mk2, mk3, mk4, mk5, mk6, mk7, mk8, mk9, mk10, mk11⟩ := hS.2.2.2.2.2.2.2.2.2.2
  have hP1 := hP.1
  have hP2 := hP.2.1
  have hP3 := hP.2.2.1
  have hP4 := hP.2.2.2.1
  have e0 := m_where hS hP hR mp mr hx h1 h2 h3 h4
  have e1 := (mp.2.2.1 l h1 h2).1
  have s1 := hP.2.2.2.2.1 l h1 h2
  have r1 := vfi_rng (vsp P R l) g (vsz P l).toNat 0
  have r2 : vpl P R l g = -1 ∨ (0 ≤ vpl P R l g ∧ vpl P R l g < vsz P l) := by unfold vpl; omega
  unfold vbp
  by_cases hk : vpl P R l g = vsz P l - 1
  · rw [if_pos hk, bo_f (fun q => q rfl)]
    simp (disch := omega) only [c_Mo_canBoard, b_Mo_canBoard_0, b_Mo_canBoard_7, b_Mo_canBoard_15, b_Mo_canBoard_28, b_Mo_canBoard_32, b_Mo_canBoard_33, mo0, mr0, mr1, mr2, mr3, mr4, mr5, mr6, mr7, mr8, mr9, mr10, mr11, mk0, mk1, mk2, mk3, mk4, mk5, mk6, mk7, mk8, mk9, mk10, mk11, e0, e1, am_ck_T, am_ck_t, am_cif_t, am_cif_f, am_cif_T, am_cif_F, am_then_s, am_push_s, am_push_n, true_and, and_true, true_or, or_true, Int.cast_ofNat_Int, am_02, am_22, not_true_eq_false, not_false_eq_true]
  · rw [if_neg hk]
    by_cases hm : vpl P R l g = -1
    · rw [bo_f (fun q => q hm)]
      simp (disch := omega) only [c_Mo_canBoard, b_Mo_canBoard_0, b_Mo_canBoard_7, b_Mo_canBoard_15, b_Mo_canBoard_28, b_Mo_canBoard_32, b_Mo_canBoard_33, mo0, mr0, mr1, mr2, mr3, mr4, mr5, mr6, mr7, mr8, mr9, mr10, mr11, mk0, mk1, mk2, mk3, mk4, mk5, mk6, mk7, mk8, mk9, mk10, mk11, e0, e1, am_ck_T, am_ck_t, am_cif_t, am_cif_f, am_cif_T, am_cif_F, am_then_s, am_push_s, am_push_n, true_and, and_true, true_or, or_true, Int.cast_ofNat_Int, am_02, am_22, not_true_eq_false, not_false_eq_true]
    · rw [bo_t hm]
      simp (disch := omega) only [c_Mo_canBoard, b_Mo_canBoard_0, b_Mo_canBoard_7, b_Mo_canBoard_15, b_Mo_canBoard_28, b_Mo_canBoard_32, b_Mo_canBoard_33, mo0, mr0, mr1, mr2, mr3, mr4, mr5, mr6, mr7, mr8, mr9, mr10, mr11, mk0, mk1, mk2, mk3, mk4, mk5, mk6, mk7, mk8, mk9, mk10, mk11, e0, e1, am_ck_T, am_ck_t, am_cif_t, am_cif_f, am_cif_T, am_cif_F, am_then_s, am_push_s, am_push_n, true_and, and_true, true_or, or_true, Int.cast_ofNat_Int, am_02, am_22, not_true_eq_false, not_false_eq_true]
theorem m_far (hS : ly S) (hP : okP P) (hR : okR P B R) (mp : mP P M) (mr : mR P R x M) (hx : 0 ≤ x ∧ x ≤ 2706) {p l fm mo : Int} (h1 : 0 ≤ l) (h2 : l < vnl P) (h3 : 0 ≤ p) (h4 : p < vnp P) (h5 : 0 ≤ fm) (h6 : fm < vsz P l) (h7 : 0 ≤ mo) (h8 : mo ≤ 5) : am_call 128 [am_r 164, am_i x, am_i p, am_i l, am_i fm, am_i mo] S M = some (some (am_i (vfa P R p l (min mo (vsz P l - 1 - fm)).toNat fm)), S, M) := by
  have hP1 := hP.1
  have hP2 := hP.2.1
  have hP3 := hP.2.2.1
  have hP4 := hP.2.2.2.1
  have s1 := hP.2.2.2.2.1 l h1 h2
  have e1 := (mp.2.2.1 l h1 h2).1
  have e2 := (mp.2.2.1 l h1 h2).2
  have key : ∀ (n : Nat) (k : Int), fm ≤ k → k ≤ vsz P l - 1 → n = (min (mo - (k - fm)) (vsz P l - 1 - k)).toNat → k - fm ≤ mo → am_R 128 7 [some (am_r 164), some (am_i x), some (am_i p), some (am_i l), some (am_i fm), some (am_i mo), some (am_i k), some (am_i 1)] [] S M = some (some (am_i (vfa P R p l n k)), S, M) := by
    obtain ⟨mo0, ⟨mr0, mr1, mr2, mr3, mr4, mr5, mr6, mr7, mr8, mr9, mr10, mr11⟩, mk0, mk1, mk2, mk3, mk4, mk5, mk6, mk7, mk8, mk9, mk10, mk11⟩ := hS.2.2.2.2.2.2.2.2.2.2
    intro n
    induction n with
    | zero =>
      intro k k1 k2 hn k3
      unfold vfa
      by_cases hz : vsz P l - 1 ≤ k
      · simp (disch := omega) only [b_Mo_farIn_7, b_Mo_farIn_12, b_Mo_farIn_85, mo0, mr0, mr1, mr2, mr3, mr4, mr5, mr6, mr7, mr8, mr9, mr10, mr11, mk0, mk1, mk2, mk3, mk4, mk5, mk6, mk7, mk8, mk9, mk10, mk11, e1, am_ck_T, am_ck_t, am_cif_t, am_cif_f, am_cif_T, am_cif_F, am_then_s, am_push_s, am_push_n, true_and, and_true, true_or, or_true, Int.cast_ofNat_Int, am_02, am_22, not_true_eq_false, not_false_eq_true]
      · simp (disch := omega) only [b_Mo_farIn_7, b_Mo_farIn_12, b_Mo_farIn_25, b_Mo_farIn_85, mo0, mr0, mr1, mr2, mr3, mr4, mr5, mr6, mr7, mr8, mr9, mr10, mr11, mk0, mk1, mk2, mk3, mk4, mk5, mk6, mk7, mk8, mk9, mk10, mk11, e1, am_ck_T, am_ck_t, am_cif_t, am_cif_f, am_cif_T, am_cif_F, am_then_s, am_push_s, am_push_n, true_and, and_true, true_or, or_true, Int.cast_ofNat_Int, am_02, am_22, not_true_eq_false, not_false_eq_true]
    | succ n ih =>
      intro k k1 k2 hn k3
      have sr := vsp_rng hP hR h1 h2 (show 0 ≤ k + 1 by omega) (show k + 1 < vsz P l by omega)
      have st := m_stop hS hP mp mr hx h1 h2 (show 0 ≤ k + 1 by omega) (show k + 1 < vsz P l by omega)
      have nr := m_near hS hP mr hx h3 h4 sr.1 sr.2
      have n1 := hR.1 p _ h3 h4 sr.1 sr.2
      have m1 : 0 ≤ (k + 1) * vfr P l := Int.mul_nonneg (by omega) s1.2.2.1
      have m2 : (k + 1) * vfr P l ≤ 6 * 3 := Int.mul_le_mul (by omega) s1.2.2.2 s1.2.2.1 (by omega)
      have o1 := m_one (S := S) (M := M) (v := 1) (Or.inr rfl)
      have o0 := m_one (S := S) (M := M) (v := 0) (Or.inl rfl)
      unfold vfa
      by_cases hg : vmg P R p l (k + 1)
      · have hg' : (k + 1) * vfr P l ≤ vnr R p (vsp P R l (k + 1)) := hg
        have ih1 := ih (k + 1) (by omega) (by omega) (by omega) (by omega)
        simp (disch := omega) only [b_Mo_farIn_7, b_Mo_farIn_12, b_Mo_farIn_25, b_Mo_farIn_35, b_Mo_farIn_48, b_Mo_farIn_51, b_Mo_farIn_65, b_Mo_farIn_70, b_Mo_farIn_79, mo0, mr0, mr1, mr2, mr3, mr4, mr5, mr6, mr7, mr8, mr9, mr10, mr11, mk0, mk1, mk2, mk3, mk4, mk5, mk6, mk7, mk8, mk9, mk10, mk11, e1, e2, st, nr, o1, am_cif_t hg, ih1, am_ck_T, am_ck_t, am_cif_t, am_cif_f, am_cif_T, am_cif_F, am_then_s, am_push_s, am_push_n, true_and, and_true, true_or, or_true, Int.cast_ofNat_Int, am_02, am_22, not_true_eq_false, not_false_eq_true]
      · have hg' : ¬ (k + 1) * vfr P l ≤ vnr R p (vsp P R l (k + 1)) := hg
        have z0 : am_R 128 7 [some (am_r 164), some (am_i x), some (am_i p), some (am_i l), some (am_i fm), some (am_i mo), some (am_i k), some (am_i 0)] [] S M = some (some (am_i k), S, M) := by
          rw [b_Mo_farIn_7]
          simp (disch := omega) only [b_Mo_farIn_85, am_ck_T, am_ck_t, am_cif_t, am_cif_f, am_cif_T, am_cif_F, am_then_s, am_push_s, am_push_n, true_and, and_true, true_or, or_true, Int.cast_ofNat_Int, am_02, am_22, not_true_eq_false, not_false_eq_true]
        rw [b_Mo_farIn_7]
        simp (disch := omega) only [b_Mo_farIn_12, b_Mo_farIn_25, b_Mo_farIn_35, b_Mo_farIn_48, b_Mo_farIn_51, b_Mo_farIn_69, b_Mo_farIn_70, b_Mo_farIn_79, z0, mo0, mr0, mr1, mr2, mr3, mr4, mr5, mr6, mr7, mr8, mr9, mr10, mr11, mk0, mk1, mk2, mk3, mk4, mk5, mk6, mk7, mk8, mk9, mk10, mk11, e1, e2, st, nr, o0, am_cif_f hg, Int.add_zero, am_ck_T, am_ck_t, am_cif_t, am_cif_f, am_cif_T, am_cif_F, am_then_s, am_push_s, am_push_n, true_and, and_true, true_or, or_true, Int.cast_ofNat_Int, am_02, am_22, not_true_eq_false, not_false_eq_true]
  rw [c_Mo_farIn, b_Mo_farIn_0]
  exact key _ fm (by omega) (by omega) (by omega) (by omega)
theorem m_isDead (hS : ly S) (mr : mR P R x M) (hx : 0 ≤ x ∧ x ≤ 2706) (p : Int) : am_call 129 [am_r 164, am_i x, am_i p] S M = some (some (am_i (bo (¬ vlv R p))), S, M) := by
  obtain ⟨mo0, ⟨mr0, mr1, mr2, mr3, mr4, mr5, mr6, mr7, mr8, mr9, mr10, mr11⟩, mk0, mk1, mk2, mk3, mk4, mk5, mk6, mk7, mk8, mk9, mk10, mk11⟩ := hS.2.2.2.2.2.2.2.2.2.2
  have e1 := mr.2.2.2.1
  have e0 := m_has (S := S) (M := M) (vdd R) p
  have r := bo_01 (am_and (am_shr (vdd R) p) 1 = 1)
  have c := am_bit_01 (am_shr (vdd R) p)
  rw [show bo (¬ vlv R p) = bo (am_and (am_shr (vdd R) p) 1 = 1) from bo_c (by unfold vlv; omega)]
  simp (disch := omega) only [c_Mo_isDead, b_Mo_isDead_0, b_Mo_isDead_13, mo0, mr0, mr1, mr2, mr3, mr4, mr5, mr6, mr7, mr8, mr9, mr10, mr11, mk0, mk1, mk2, mk3, mk4, mk5, mk6, mk7, mk8, mk9, mk10, mk11, e1, e0, am_ck_T, am_ck_t, am_cif_t, am_cif_f, am_cif_T, am_cif_F, am_then_s, am_push_s, am_push_n, true_and, and_true, true_or, or_true, Int.cast_ofNat_Int, am_02, am_22, not_true_eq_false, not_false_eq_true]
end MODEL
