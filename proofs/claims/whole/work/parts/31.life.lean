/-! Life: what is read -/
theorem am_and_R (x y : Int) : am_Ri (am_and x y) := by
  unfold am_and
  have h1 := Int32.le_toInt (Int32.ofInt x &&& Int32.ofInt y)
  have h2 := Int32.toInt_lt (Int32.ofInt x &&& Int32.ofInt y)
  exact ⟨by omega, by omega⟩
/-- who lives -/
def vlv (R : vR) (p : Int) : Prop := am_and (am_shr (vdd R) p) 1 = 0
/-- STOP k may be gone on to -/
def vmg (P : vP) (R : vR) (p l k : Int) : Prop := k * vfr P l ≤ vnr R p (vsp P R l k)
/-- how much is lacking at STOP k -/
def vlk (P : vP) (R : vR) (p l k : Int) : Int := max 0 (k * vfr P l - vnr R p (vsp P R l k))
/-- and at the n behind k, together -/
def vls (P : vP) (R : vR) (p l : Int) : Nat → Int → Int → Int
  | 0, _, s => s
  | n + 1, k, s => vls P R p l n (k + 1) (s + vlk P R p l k)
/-- as far as one may, n STOPS at most, from k -/
noncomputable def vfa (P : vP) (R : vR) (p l : Int) : Nat → Int → Int
  | 0, k => k
  | n + 1, k => am_cif (vmg P R p l (k + 1)) (vfa P R p l n (k + 1)) k
theorem vsp_rng {P : vP} {R : vR} {B : Int} (hP : okP P) (hR : okR P B R) {l k : Int} (h1 : 0 ≤ l) (h2 : l < vnl P) (h3 : 0 ≤ k) (h4 : k < vsz P l) : 0 ≤ vsp P R l k ∧ vsp P R l k < vnp P := by
  unfold vsp
  by_cases hk : k = vsz P l - 1
  · rw [if_pos hk]; exact hR.2.2.1 l h1 h2
  · rw [if_neg hk]; exact hP.2.2.2.2.2.1 l k h1 h2 h3 h4
section LIFE
variable {S : am_S} {M : am_M} {P : vP} {R : vR} {B : Int} {b : Nat}
theorem k_stop (hS : ly S) (hb : lf b) (hP : okP P) (cp : cP P M) (cr : cR P R b M) {l k : Int} (h1 : 0 ≤ l) (h2 : l < vnl P) (h3 : 0 ≤ k) (h4 : k < vsz P l) : am_call 15 [am_r b, am_i l, am_i k] S M = some (some (am_i (vsp P R l k)), S, M) := by
  obtain ⟨li0, li1, li2, li3, li4, li5, li6, li7⟩ := hS.2.2.2.2.1 b hb
  obtain ⟨pl0, pl1, pl2, pl3, pl4, pl5, pl6, pl7, pl8⟩ := hS.2.1
  obtain ⟨n1, n2, n3, n4, n5, n6, n7⟩ := hP
  obtain ⟨c1, c2, c3, c4⟩ := cp
  have s1 := n5 l h1 h2
  have e1 := (c3 l h1 h2).1
  have e2 := cr.2.2.1 l h1 h2
  have e3 := c4 l k h1 h2 h3 h4
  unfold vsp
  by_cases hk : k = vsz P l - 1
  · simp (disch := omega) only [c_Li_stop, b_Li_stop_0, b_Li_stop_15, b_Li_stop_24, b_Li_stop_38, li0, li1, li2, li3, li4, li5, li6, li7, pl0, pl1, pl2, pl3, pl4, pl5, pl6, pl7, pl8, e1, e2, if_pos hk, am_ck_T, am_ck_t, am_cif_t, am_cif_f, am_cif_T, am_cif_F, am_then_s, am_push_s, am_push_n, true_and, and_true, true_or, or_true, Int.cast_ofNat_Int, am_02, am_22, not_true_eq_false, not_false_eq_true]
  · simp (disch := omega) only [c_Li_stop, b_Li_stop_0, b_Li_stop_15, b_Li_stop_24, b_Li_stop_38, li0, li1, li2, li3, li4, li5, li6, li7, pl0, pl1, pl2, pl3, pl4, pl5, pl6, pl7, pl8, e1, e3, if_neg hk, am_ck_T, am_ck_t, am_cif_t, am_cif_f, am_cif_T, am_cif_F, am_then_s, am_push_s, am_push_n, true_and, and_true, true_or, or_true, Int.cast_ofNat_Int, am_02, am_22, not_true_eq_false, not_false_eq_true]
theorem k_lives (hS : ly S) (hb : lf b) (cr : cR P R b M) (p : Int) : am_call 12 [am_r b, am_i p] S M = some (some (am_i (bo (vlv R p))), S, M) := by
  obtain ⟨li0, li1, li2, li3, li4, li5, li6, li7⟩ := hS.2.2.2.2.1 b hb
  have e1 := cr.2.2.2.1
  have r1 := am_and_R (am_shr (vdd R) p) 1
  by_cases h : vlv R p
  · have h' : am_and (am_shr (vdd R) p) 1 = 0 := h
    simp (disch := omega) only [c_Li_lives, b_Li_lives_0, b_Li_lives_11, b_Li_lives_15, b_Li_lives_16, li0, li1, li2, li3, li4, li5, li6, li7, e1, h', bo_t h, not_true, am_ck_T, am_ck_t, am_cif_t, am_cif_f, am_cif_T, am_cif_F, am_then_s, am_push_s, am_push_n, true_and, and_true, true_or, or_true, Int.cast_ofNat_Int, am_02, am_22, not_true_eq_false, not_false_eq_true]
  · have h' : ¬ am_and (am_shr (vdd R) p) 1 = 0 := h
    simp (disch := omega) only [c_Li_lives, b_Li_lives_0, b_Li_lives_11, b_Li_lives_15, b_Li_lives_16, li0, li1, li2, li3, li4, li5, li6, li7, e1, bo_f h, am_ck_T, am_ck_t, am_cif_t, am_cif_f, am_cif_T, am_cif_F, am_then_s, am_push_s, am_push_n, true_and, and_true, true_or, or_true, Int.cast_ofNat_Int, am_02, am_22, not_true_eq_false, not_false_eq_true]
theorem k_near (hS : ly S) (hb : lf b) (hP : okP P) (cr : cR P R b M) {p q : Int} (h1 : 0 ≤ p) (h2 : p < vnp P) (h3 : 0 ≤ q) (h4 : q < vnp P) : am_call 13 [am_r b, am_i p, am_i q] S M = some (some (am_i (vnr R p q)), S, M) := by
  obtain ⟨li0, li1, li2, li3, li4, li5, li6, li7⟩ := hS.2.2.2.2.1 b hb
  have hP1 := hP.1
  have hP2 := hP.2.1
  have hP3 := hP.2.2.1
  have hP4 := hP.2.2.2.1
  have e1 := cr.1 p q h1 h2 h3 h4
  have n1 := hP.2.1
  simp (disch := omega) only [c_Li_nearness, b_Li_nearness_0, li0, li1, li2, li3, li4, li5, li6, li7, e1, am_ck_T, am_ck_t, am_cif_t, am_cif_f, am_cif_T, am_cif_F, am_then_s, am_push_s, am_push_n, true_and, and_true, true_or, or_true, Int.cast_ofNat_Int, am_02, am_22, not_true_eq_false, not_false_eq_true]
theorem k_place (hS : ly S) (hb : lf b) (hP : okP P) (hR : okR P B R) (cp : cP P M) (cr : cR P R b M) {l g : Int} (h1 : 0 ≤ l) (h2 : l < vnl P) (h3 : 0 ≤ g) (h4 : g < vnp P) : am_call 16 [am_r b, am_i l, am_i g] S M = some (some (am_i (vpl P R l g)), S, M) := by
  have hP' := hP
  obtain ⟨n1, n2, n3, n4, n5, n6, n7⟩ := hP'
  have s1 := n5 l h1 h2
  have e1 := (cp.2.2.1 l h1 h2).1
  have key : ∀ (n : Nat) (i : Int), 0 ≤ i → i + n = vsz P l → am_R 16 2 [some (am_r b), some (am_i l), some (am_i g), some (am_i i)] [] S M = some (some (am_i (vfi (vsp P R l) g n i)), S, M) := by
    obtain ⟨li0, li1, li2, li3, li4, li5, li6, li7⟩ := hS.2.2.2.2.1 b hb
    obtain ⟨pl0, pl1, pl2, pl3, pl4, pl5, pl6, pl7, pl8⟩ := hS.2.1
    have hP1 := hP.1
    have hP2 := hP.2.1
    have hP3 := hP.2.2.1
    have hP4 := hP.2.2.2.1
    intro n
    induction n with
    | zero =>
      intro i hi hn
      simp (disch := omega) only [b_Li_placeOf_2, b_Li_placeOf_33, li0, li1, li2, li3, li4, li5, li6, li7, pl0, pl1, pl2, pl3, pl4, pl5, pl6, pl7, pl8, e1, vfi, am_ck_T, am_ck_t, am_cif_t, am_cif_f, am_cif_T, am_cif_F, am_then_s, am_push_s, am_push_n, true_and, and_true, true_or, or_true, Int.cast_ofNat_Int, am_02, am_22, not_true_eq_false, not_false_eq_true]
    | succ n ih =>
      intro i hi hn
      have st := k_stop hS hb hP cp cr h1 h2 hi (show i < vsz P l by omega)
      have sr := vsp_rng hP hR h1 h2 hi (show i < vsz P l by omega)
      have ih1 := ih (i + 1) (by omega) (by omega)
      unfold vfi
      by_cases hq : vsp P R l i = g
      · simp (disch := omega) only [b_Li_placeOf_2, b_Li_placeOf_15, b_Li_placeOf_21, b_Li_placeOf_25, li0, li1, li2, li3, li4, li5, li6, li7, pl0, pl1, pl2, pl3, pl4, pl5, pl6, pl7, pl8, e1, st, if_pos hq, am_ck_T, am_ck_t, am_cif_t, am_cif_f, am_cif_T, am_cif_F, am_then_s, am_push_s, am_push_n, true_and, and_true, true_or, or_true, Int.cast_ofNat_Int, am_02, am_22, not_true_eq_false, not_false_eq_true]
      · simp (disch := omega) only [b_Li_placeOf_2, b_Li_placeOf_15, b_Li_placeOf_21, b_Li_placeOf_27, li0, li1, li2, li3, li4, li5, li6, li7, pl0, pl1, pl2, pl3, pl4, pl5, pl6, pl7, pl8, e1, st, if_neg hq, ih1, am_ck_T, am_ck_t, am_cif_t, am_cif_f, am_cif_T, am_cif_F, am_then_s, am_push_s, am_push_n, true_and, and_true, true_or, or_true, Int.cast_ofNat_Int, am_02, am_22, not_true_eq_false, not_false_eq_true]
  rw [c_Li_placeOf, b_Li_placeOf_0, key (vsz P l).toNat 0 (by omega) (by omega)]
  rfl
theorem k_board (hS : ly S) (hb : lf b) (hP : okP P) (hR : okR P B R) (cp : cP P M) (cr : cR P R b M) {l g : Int} (h1 : 0 ≤ l) (h2 : l < vnl P) (h3 : 0 ≤ g) (h4 : g < vnp P) : am_call 17 [am_r b, am_i l, am_i g] S M = some (some (am_i (vbp P R l g)), S, M) := by
  obtain ⟨li0, li1, li2, li3, li4, li5, li6, li7⟩ := hS.2.2.2.2.1 b hb
  obtain ⟨pl0, pl1, pl2, pl3, pl4, pl5, pl6, pl7, pl8⟩ := hS.2.1
  have hP1 := hP.1
  have hP2 := hP.2.1
  have hP3 := hP.2.2.1
  have hP4 := hP.2.2.2.1
  have e0 := k_place hS hb hP hR cp cr h1 h2 h3 h4
  have e1 := (cp.2.2.1 l h1 h2).1
  have s1 := hP.2.2.2.2.1 l h1 h2
  have r1 := vpl_rng R g (show 0 ≤ vsz P l by omega)
  unfold vbp
  by_cases hk : vpl P R l g = vsz P l - 1
  · simp (disch := omega) only [c_Li_boardingPlace, b_Li_boardingPlace_0, b_Li_boardingPlace_6, b_Li_boardingPlace_22, b_Li_boardingPlace_26, b_Li_boardingPlace_27, li0, li1, li2, li3, li4, li5, li6, li7, pl0, pl1, pl2, pl3, pl4, pl5, pl6, pl7, pl8, e0, e1, if_pos hk, am_ck_T, am_ck_t, am_cif_t, am_cif_f, am_cif_T, am_cif_F, am_then_s, am_push_s, am_push_n, true_and, and_true, true_or, or_true, Int.cast_ofNat_Int, am_02, am_22, not_true_eq_false, not_false_eq_true]
  · simp (disch := omega) only [c_Li_boardingPlace, b_Li_boardingPlace_0, b_Li_boardingPlace_6, b_Li_boardingPlace_22, b_Li_boardingPlace_26, b_Li_boardingPlace_27, li0, li1, li2, li3, li4, li5, li6, li7, pl0, pl1, pl2, pl3, pl4, pl5, pl6, pl7, pl8, e0, e1, if_neg hk, am_ck_T, am_ck_t, am_cif_t, am_cif_f, am_cif_T, am_cif_F, am_then_s, am_push_s, am_push_n, true_and, and_true, true_or, or_true, Int.cast_ofNat_Int, am_02, am_22, not_true_eq_false, not_false_eq_true]
theorem vbp_rng {P : vP} (R : vR) {l : Int} (g : Int) (h : 0 ≤ vsz P l) : vbp P R l g = -1 ∨ (0 ≤ vbp P R l g ∧ vbp P R l g < vsz P l - 1) := by
  have r1 := vfi_rng (vsp P R l) g (vsz P l).toNat 0
  unfold vbp
  by_cases hk : vpl P R l g = vsz P l - 1
  · rw [if_pos hk]; exact Or.inl rfl
  · rw [if_neg hk]
    unfold vpl at hk ⊢
    omega
theorem k_mayBoard (hS : ly S) (hb : lf b) (hP : okP P) (hR : okR P B R) (cp : cP P M) (cr : cR P R b M) {p l : Int} (h1 : 0 ≤ l) (h2 : l < vnl P) (h3 : 0 ≤ p) (h4 : p < vnp P) : am_call 18 [am_r b, am_i p, am_i l] S M = some (some (am_i (bo (vlv R p ∧ vbp P R l (vgt R p) ≠ -1))), S, M) := by
  obtain ⟨li0, li1, li2, li3, li4, li5, li6, li7⟩ := hS.2.2.2.2.1 b hb
  have hP1 := hP.1
  have hP2 := hP.2.1
  have hP3 := hP.2.2.1
  have hP4 := hP.2.2.2.1
  have g1 := hR.2.1 p h3 h4
  have e0 := k_board hS hb hP hR cp cr h1 h2 g1.2.1 g1.2.2
  have e1 := k_lives hS hb cr p
  have e2 := cr.2.1 p h3 h4
  have n1 := hP.2.1
  have s1 := hP.2.2.2.2.1 l h1 h2
  have r1 := vbp_rng R (vgt R p) (show 0 ≤ vsz P l by omega)
  by_cases hl : vlv R p
  · by_cases hk : vbp P R l (vgt R p) = -1
    · simp (disch := omega) only [c_Li_mayBoard, b_Li_mayBoard_0, b_Li_mayBoard_5, b_Li_mayBoard_8, b_Li_mayBoard_19, b_Li_mayBoard_23, b_Li_mayBoard_27, b_Li_mayBoard_28, li0, li1, li2, li3, li4, li5, li6, li7, e0, e1, e2, bo_t hl, bo_f (fun q : vlv R p ∧ vbp P R l (vgt R p) ≠ -1 => q.2 hk), am_ck_T, am_ck_t, am_cif_t, am_cif_f, am_cif_T, am_cif_F, am_then_s, am_push_s, am_push_n, true_and, and_true, true_or, or_true, Int.cast_ofNat_Int, am_02, am_22, not_true_eq_false, not_false_eq_true]
    · simp (disch := omega) only [c_Li_mayBoard, b_Li_mayBoard_0, b_Li_mayBoard_5, b_Li_mayBoard_8, b_Li_mayBoard_19, b_Li_mayBoard_23, b_Li_mayBoard_27, b_Li_mayBoard_28, li0, li1, li2, li3, li4, li5, li6, li7, e0, e1, e2, bo_t hl, bo_t (show vlv R p ∧ vbp P R l (vgt R p) ≠ -1 from ⟨hl, hk⟩), am_ck_T, am_ck_t, am_cif_t, am_cif_f, am_cif_T, am_cif_F, am_then_s, am_push_s, am_push_n, true_and, and_true, true_or, or_true, Int.cast_ofNat_Int, am_02, am_22, not_true_eq_false, not_false_eq_true]
  · simp (disch := omega) only [c_Li_mayBoard, b_Li_mayBoard_0, b_Li_mayBoard_5, b_Li_mayBoard_8, b_Li_mayBoard_19, b_Li_mayBoard_23, b_Li_mayBoard_27, b_Li_mayBoard_28, li0, li1, li2, li3, li4, li5, li6, li7, e1, bo_f hl, bo_f (fun q : vlv R p ∧ vbp P R l (vgt R p) ≠ -1 => hl q.1), am_ck_T, am_ck_t, am_cif_t, am_cif_f, am_cif_T, am_cif_F, am_then_s, am_push_s, am_push_n, true_and, and_true, true_or, or_true, Int.cast_ofNat_Int, am_02, am_22, not_true_eq_false, not_false_eq_true]
theorem k_lackAt (hS : ly S) (hb : lf b) (hP : okP P) (hR : okR P B R) (cp : cP P M) (cr : cR P R b M) {p l k : Int} (h1 : 0 ≤ l) (h2 : l < vnl P) (h3 : 0 ≤ p) (h4 : p < vnp P) (h5 : 0 ≤ k) (h6 : k < vsz P l) : am_call 19 [am_r b, am_i p, am_i l, am_i k] S M = some (some (am_i (vlk P R p l k)), S, M) := by
  obtain ⟨li0, li1, li2, li3, li4, li5, li6, li7⟩ := hS.2.2.2.2.1 b hb
  obtain ⟨pl0, pl1, pl2, pl3, pl4, pl5, pl6, pl7, pl8⟩ := hS.2.1
  have hP1 := hP.1
  have hP2 := hP.2.1
  have hP3 := hP.2.2.1
  have hP4 := hP.2.2.2.1
  have sr := vsp_rng hP hR h1 h2 h5 h6
  have e0 := k_stop hS hb hP cp cr h1 h2 h5 h6
  have e1 := k_near hS hb hP cr h3 h4 sr.1 sr.2
  have e2 := (cp.2.2.1 l h1 h2).2
  have s1 := hP.2.2.2.2.1 l h1 h2
  have n1 := hR.1 p _ h3 h4 sr.1 sr.2
  have hnl := hP.2.2.2.1
  have m1 : 0 ≤ k * vfr P l := Int.mul_nonneg h5 s1.2.2.1
  have m2 : k * vfr P l ≤ 6 * 3 := Int.mul_le_mul (by omega) s1.2.2.2 s1.2.2.1 (by omega)
  unfold vlk
  simp (disch := omega) only [c_Li_lackAt, b_Li_lackAt_0, b_Li_lackAt_20, b_Li_lackAt_23, li0, li1, li2, li3, li4, li5, li6, li7, pl0, pl1, pl2, pl3, pl4, pl5, pl6, pl7, pl8, e0, e1, e2, am_ck_T, am_ck_t, am_cif_t, am_cif_f, am_cif_T, am_cif_F, am_then_s, am_push_s, am_push_n, true_and, and_true, true_or, or_true, Int.cast_ofNat_Int, am_02, am_22, not_true_eq_false, not_false_eq_true]
theorem vlk_rng (hP : okP P) (hR : okR P B R) {p l k : Int} (h1 : 0 ≤ l) (h2 : l < vnl P) (h3 : 0 ≤ p) (h4 : p < vnp P) (h5 : 0 ≤ k) (h6 : k < vsz P l) : 0 ≤ vlk P R p l k ∧ vlk P R p l k ≤ 18 ∧ (vlk P R p l k = 0 ↔ vmg P R p l k) := by
  have sr := vsp_rng hP hR h1 h2 h5 h6
  have s1 := hP.2.2.2.2.1 l h1 h2
  have n1 := hR.1 p _ h3 h4 sr.1 sr.2
  have m1 : 0 ≤ k * vfr P l := Int.mul_nonneg h5 s1.2.2.1
  have m2 : k * vfr P l ≤ 6 * 3 := Int.mul_le_mul (by omega) s1.2.2.2 s1.2.2.1 (by omega)
  unfold vlk vmg
  exact ⟨by omega, by omega, by omega⟩
theorem k_mayGoOn (hS : ly S) (hb : lf b) (hP : okP P) (hR : okR P B R) (cp : cP P M) (cr : cR P R b M) {p l k : Int} (h1 : 0 ≤ l) (h2 : l < vnl P) (h3 : 0 ≤ p) (h4 : p < vnp P) (h5 : 0 ≤ k) (h6 : k < vsz P l) : am_call 20 [am_r b, am_i p, am_i l, am_i k] S M = some (some (am_i (bo (vmg P R p l k))), S, M) := by
  obtain ⟨li0, li1, li2, li3, li4, li5, li6, li7⟩ := hS.2.2.2.2.1 b hb
  have hP1 := hP.1
  have hP2 := hP.2.1
  have hP3 := hP.2.2.1
  have hP4 := hP.2.2.2.1
  have e0 := k_lackAt hS hb hP hR cp cr h1 h2 h3 h4 h5 h6
  obtain ⟨r1, r2, r3⟩ := vlk_rng hP hR h1 h2 h3 h4 h5 h6
  by_cases hk : vmg P R p l k
  · have hz := r3.mpr hk
    simp (disch := omega) only [c_Li_mayGoOn, b_Li_mayGoOn_0, b_Li_mayGoOn_7, b_Li_mayGoOn_10, b_Li_mayGoOn_14, b_Li_mayGoOn_15, li0, li1, li2, li3, li4, li5, li6, li7, e0, bo_t hk, am_ck_T, am_ck_t, am_cif_t, am_cif_f, am_cif_T, am_cif_F, am_then_s, am_push_s, am_push_n, true_and, and_true, true_or, or_true, Int.cast_ofNat_Int, am_02, am_22, not_true_eq_false, not_false_eq_true]
  · have hz : ¬ vlk P R p l k = 0 := fun q => hk (r3.mp q)
    simp (disch := omega) only [c_Li_mayGoOn, b_Li_mayGoOn_0, b_Li_mayGoOn_7, b_Li_mayGoOn_10, b_Li_mayGoOn_14, b_Li_mayGoOn_15, li0, li1, li2, li3, li4, li5, li6, li7, e0, bo_f hk, am_ck_T, am_ck_t, am_cif_t, am_cif_f, am_cif_T, am_cif_F, am_then_s, am_push_s, am_push_n, true_and, and_true, true_or, or_true, Int.cast_ofNat_Int, am_02, am_22, not_true_eq_false, not_false_eq_true]
end LIFE
