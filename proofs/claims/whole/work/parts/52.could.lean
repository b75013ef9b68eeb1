/-! could -/
def vgo (n f v : Int) : Int := if f = 0 then n else min n (v / f)
theorem vgo_a {n f v k : Int} (h1 : 0 ≤ f) (h2 : f ≤ 3) (h3 : k ≤ vgo n f v) (h5 : v < (k + 1) * f) (h6 : 0 ≤ v) (h7 : 0 ≤ k) : vgo n f v = k := by
  unfold vgo at *
  have hf : f = 0 ∨ f = 1 ∨ f = 2 ∨ f = 3 := by omega
  rcases hf with rfl | rfl | rfl | rfl
  · omega
  · rw [if_neg (by omega)] at *; omega
  · rw [if_neg (by omega)] at *; omega
  · rw [if_neg (by omega)] at *; omega
theorem vgo_b {n f v k : Int} (h1 : 0 ≤ f) (h2 : f ≤ 3) (h4 : k < n) (h5 : ¬ v < (k + 1) * f) : k + 1 ≤ vgo n f v := by
  unfold vgo
  have hf : f = 0 ∨ f = 1 ∨ f = 2 ∨ f = 3 := by omega
  rcases hf with rfl | rfl | rfl | rfl
  · rw [if_pos rfl]; omega
  · rw [if_neg (by omega)]; omega
  · rw [if_neg (by omega)]; omega
  · rw [if_neg (by omega)]; omega
theorem vgo_r {n f v : Int} (h0 : 0 ≤ n) (h1 : 0 ≤ f) (h2 : f ≤ 3) (h6 : 0 ≤ v) : 0 ≤ vgo n f v ∧ vgo n f v ≤ n := by
  unfold vgo
  have hf : f = 0 ∨ f = 1 ∨ f = 2 ∨ f = 3 := by omega
  rcases hf with rfl | rfl | rfl | rfl
  · rw [if_pos rfl]; omega
  · rw [if_neg (by omega)]; omega
  · rw [if_neg (by omega)]; omega
  · rw [if_neg (by omega)]; omega
/-- where one gets off on line l, so near -/
def vst2 (P : vP) (l v : Int) : Int := vgo (vsz P l - 1) (vfr P l) v
/-- all that was seen fits -/
def vft (P : vP) (v : Int) : List (Int × Int) → Prop
  | [] => True
  | t :: l => vst2 P t.1 v = t.2 ∧ vft P v l
noncomputable def vcl (P : vP) (l : List (Int × Int)) : Nat → Int → Int → Int
  | 0, _, a => a
  | n + 1, v, a => vcl P l n (v + 1) (am_cif (vft P v l) (am_or a (am_shl 1 v)) a)
theorem bu_or : ∀ (d : Fin 1024) (p : Fin 10), 0 ≤ am_or (d.val : Int) (am_shl 1 (p.val : Int)) ∧ am_or (d.val : Int) (am_shl 1 (p.val : Int)) < 1024 := by decide +kernel
theorem bu_or0 : ∀ (d : Fin 1024) (p : Fin 10), am_or (d.val : Int) (am_shl 0 (p.val : Int)) = (d.val : Int) := by decide +kernel
theorem vcl_rng (P : vP) (l : List (Int × Int)) : ∀ (n : Nat) (v a : Int), 0 ≤ v → v + n ≤ 10 → 0 ≤ a → a < 1024 → 0 ≤ vcl P l n v a ∧ vcl P l n v a < 1024 := by
  intro n
  induction n with
  | zero => intro v a _ _ h1 h2; exact ⟨h1, h2⟩
  | succ n ih =>
    intro v a h1 h2 h3 h4
    unfold vcl
    have u := bu_or ⟨a.toNat, by omega⟩ ⟨v.toNat, by omega⟩
    have c1 : ((a.toNat : Nat) : Int) = a := by omega
    have c2 : ((v.toNat : Nat) : Int) = v := by omega
    rw [c1, c2] at u
    by_cases h : vft P v l
    · rw [am_cif_t h]; exact ih _ _ (by omega) (by omega) u.1 u.2
    · rw [am_cif_f h]; exact ih _ _ (by omega) (by omega) h3 h4
section COULD
variable {S : am_S} {M M1 : am_M} {X : vX} {B : Int} {P : vP} {R : vR}
theorem k_stopBy (hS : ly S) (hP : okP P) (cp : cP P M) {l v : Int} (h1 : 0 ≤ l) (h2 : l < vnl P) (h3 : 0 ≤ v) (h4 : v ≤ 9) : am_call 49 [am_r 146, am_i v, am_i l] S M = some (some (am_i (vst2 P l v)), S, M) := by
  obtain ⟨si0, si1, si2, si3, si4, si5, si6, si7⟩ := hS.2.2.2.2.2.2.2.1
  obtain ⟨pl0, pl1, pl2, pl3, pl4, pl5, pl6, pl7, pl8⟩ := hS.2.1
  have hP1 := hP.1
  have hP2 := hP.2.1
  have hP3 := hP.2.2.1
  have hP4 := hP.2.2.2.1
  have s1 := hP.2.2.2.2.1 l h1 h2
  have e := cp.2.2.1 l h1 h2
  have hf : vfr P l = 0 ∨ vfr P l = 1 ∨ vfr P l = 2 ∨ vfr P l = 3 := by omega
  unfold vst2 vgo
  rcases hf with hf | hf | hf | hf
  · rw [if_pos hf]
    simp (disch := omega) only [c_Si_stopBy, b_Si_stopBy_0, b_Si_stopBy_28, b_Si_stopBy_32, b_Si_stopBy_40, si0, si1, si2, si3, si4, si5, si6, si7, pl0, pl1, pl2, pl3, pl4, pl5, pl6, pl7, pl8, e.1, e.2, hf, am_ck_T, am_ck_t, am_cif_t, am_cif_f, am_cif_T, am_cif_F, am_then_s, am_push_s, am_push_n, true_and, and_true, true_or, or_true, Int.cast_ofNat_Int, am_02, am_22, not_true_eq_false, not_false_eq_true]
  · rw [if_neg (by omega)]
    simp (disch := omega) only [c_Si_stopBy, b_Si_stopBy_0, b_Si_stopBy_28, b_Si_stopBy_32, b_Si_stopBy_40, si0, si1, si2, si3, si4, si5, si6, si7, pl0, pl1, pl2, pl3, pl4, pl5, pl6, pl7, pl8, e.1, e.2, hf, am_ck_T, am_ck_t, am_cif_t, am_cif_f, am_cif_T, am_cif_F, am_then_s, am_push_s, am_push_n, true_and, and_true, true_or, or_true, Int.cast_ofNat_Int, am_02, am_22, not_true_eq_false, not_false_eq_true]
  · rw [if_neg (by omega)]
    simp (disch := omega) only [c_Si_stopBy, b_Si_stopBy_0, b_Si_stopBy_28, b_Si_stopBy_32, b_Si_stopBy_40, si0, si1, si2, si3, si4, si5, si6, si7, pl0, pl1, pl2, pl3, pl4, pl5, pl6, pl7, pl8, e.1, e.2, hf, am_ck_T, am_ck_t, am_cif_t, am_cif_f, am_cif_T, am_cif_F, am_then_s, am_push_s, am_push_n, true_and, and_true, true_or, or_true, Int.cast_ofNat_Int, am_02, am_22, not_true_eq_false, not_false_eq_true]
  · rw [if_neg (by omega)]
    simp (disch := omega) only [c_Si_stopBy, b_Si_stopBy_0, b_Si_stopBy_28, b_Si_stopBy_32, b_Si_stopBy_40, si0, si1, si2, si3, si4, si5, si6, si7, pl0, pl1, pl2, pl3, pl4, pl5, pl6, pl7, pl8, e.1, e.2, hf, am_ck_T, am_ck_t, am_cif_t, am_cif_f, am_cif_T, am_cif_F, am_then_s, am_push_s, am_push_n, true_and, and_true, true_or, or_true, Int.cast_ofNat_Int, am_02, am_22, not_true_eq_false, not_false_eq_true]
theorem m_getsOff (hS : ly S) (hP : okP P) (mp : mP P M) {l v : Int} (h1 : 0 ≤ l) (h2 : l < vnl P) (h3 : 0 ≤ v) (h4 : v ≤ 9) : am_call 168 [am_r 164, am_i l, am_i v] S M = some (some (am_i (vst2 P l v)), S, M) := by
  obtain ⟨mo0, ⟨mr0, mr1, mr2, mr3, mr4, mr5, mr6, mr7, mr8, mr9, mr10, mr11⟩, mk0, mk1, mk2, mk3, mk4, mk5, mk6, mk7, mk8, mk9, mk10, mk11⟩ := hS.2.2.2.2.2.2.2.2.2.2
  have hP1 := hP.1
  have hP2 := hP.2.1
  have hP3 := hP.2.2.1
  have hP4 := hP.2.2.2.1
  have s1 := hP.2.2.2.2.1 l h1 h2
  have e := mp.2.2.1 l h1 h2
  have r := vgo_r (n := vsz P l - 1) (f := vfr P l) (v := v) (by omega) (by omega) (by omega) h3
  unfold vst2
  have loop : ∀ (n : Nat) (k : Int), 0 ≤ k → k + n = vsz P l - 1 → k ≤ vgo (vsz P l - 1) (vfr P l) v → am_R 168 2 [some (am_r 164), some (am_i l), some (am_i v), some (am_i k)] [] S M = some (some (am_i (vgo (vsz P l - 1) (vfr P l) v)), S, M) := by
    intro n
    induction n with
    | zero =>
      intro k k1 k2 k3
      have : vgo (vsz P l - 1) (vfr P l) v = k := by omega
      rw [this, b_Mo_getsOff_2]
      simp (disch := omega) only [b_Mo_getsOff_34, mo0, mr0, mr1, mr2, mr3, mr4, mr5, mr6, mr7, mr8, mr9, mr10, mr11, mk0, mk1, mk2, mk3, mk4, mk5, mk6, mk7, mk8, mk9, mk10, mk11, e.1, e.2, am_ck_T, am_ck_t, am_cif_t, am_cif_f, am_cif_T, am_cif_F, am_then_s, am_push_s, am_push_n, true_and, and_true, true_or, or_true, Int.cast_ofNat_Int, am_02, am_22, not_true_eq_false, not_false_eq_true]
    | succ n ih =>
      intro k k1 k2 k3
      have m1 : 0 ≤ (k + 1) * vfr P l := Int.mul_nonneg (by omega) s1.2.2.1
      have m2 : (k + 1) * vfr P l ≤ 6 * 3 := Int.mul_le_mul (by omega) s1.2.2.2 s1.2.2.1 (by omega)
      rw [b_Mo_getsOff_2]
      by_cases hg : v < (k + 1) * vfr P l
      · have : vgo (vsz P l - 1) (vfr P l) v = k := vgo_a (by omega) (by omega) k3 hg h3 k1
        rw [this]
        simp (disch := omega) only [b_Mo_getsOff_14, b_Mo_getsOff_34, mo0, mr0, mr1, mr2, mr3, mr4, mr5, mr6, mr7, mr8, mr9, mr10, mr11, mk0, mk1, mk2, mk3, mk4, mk5, mk6, mk7, mk8, mk9, mk10, mk11, e.1, e.2, am_cif_t hg, am_ck_T, am_ck_t, am_cif_t, am_cif_f, am_cif_T, am_cif_F, am_then_s, am_push_s, am_push_n, true_and, and_true, true_or, or_true, Int.cast_ofNat_Int, am_02, am_22, not_true_eq_false, not_false_eq_true]
      · have ih1 := ih (k + 1) (by omega) (by omega) (vgo_b (by omega) (by omega) (by omega) hg)
        simp (disch := omega) only [b_Mo_getsOff_14, b_Mo_getsOff_28, mo0, mr0, mr1, mr2, mr3, mr4, mr5, mr6, mr7, mr8, mr9, mr10, mr11, mk0, mk1, mk2, mk3, mk4, mk5, mk6, mk7, mk8, mk9, mk10, mk11, e.1, e.2, am_cif_f hg, ih1, am_ck_T, am_ck_t, am_cif_t, am_cif_f, am_cif_T, am_cif_F, am_then_s, am_push_s, am_push_n, true_and, and_true, true_or, or_true, Int.cast_ofNat_Int, am_02, am_22, not_true_eq_false, not_false_eq_true]
  have l0 := loop (vsz P l - 1).toNat 0 (by omega) (by omega) r.1
  simp (disch := omega) only [c_Mo_getsOff, b_Mo_getsOff_0, l0, am_ck_T, am_ck_t, am_cif_t, am_cif_f, am_cif_T, am_cif_F, am_then_s, am_push_s, am_push_n, true_and, and_true, true_or, or_true, Int.cast_ofNat_Int, am_02, am_22, not_true_eq_false, not_false_eq_true]
theorem k_fits (hS : ly S) (ok : okX B X) (c : CX X M) {v : Int} (h3 : 0 ≤ v) (h4 : v ≤ 9) : am_call 50 [am_r 146, am_i v] S M = some (some (am_i (bo (vft (xP X) v (xS X)))), S, M) := by
  obtain ⟨si0, si1, si2, si3, si4, si5, si6, si7⟩ := hS.2.2.2.2.2.2.2.1
  have hP := ok.1
  have okS := ok.2.2.2.2.2.2.1
  have n1 := c.2.2.2.2.2.1.1
  have n2 := c.2.2.2.2.2.1.2
  have split : ∀ (i : Nat) (t : Int × Int), (xS X)[i]? = some t → (xS X).drop i = t :: (xS X).drop (i + 1) := by
    intro i t ht
    obtain ⟨h, e⟩ := List.getElem?_eq_some_iff.mp ht
    rw [List.drop_eq_getElem_cons h, e]
  have loop : ∀ (n : Nat) (i : Nat), i + n = (xS X).length → am_R 50 2 [some (am_r 146), some (am_i v), some (am_i (i : Int))] [] S M = some (some (am_i (bo (vft (xP X) v ((xS X).drop i)))), S, M) := by
    intro n
    induction n with
    | zero =>
      intro i hi
      rw [b_Si_fits_2, List.drop_eq_nil_of_le (by omega), bo_t (show vft (xP X) v [] from trivial)]
      simp (disch := omega) only [b_Si_fits_38, si0, si1, si2, si3, si4, si5, si6, si7, n1, am_ck_T, am_ck_t, am_cif_t, am_cif_f, am_cif_T, am_cif_F, am_then_s, am_push_s, am_push_n, true_and, and_true, true_or, or_true, Int.cast_ofNat_Int, am_02, am_22, not_true_eq_false, not_false_eq_true]
    | succ n ih =>
      intro i hi
      have hlt : i < (xS X).length := by omega
      obtain ⟨t, ht⟩ : ∃ t, (xS X)[i]? = some t := ⟨_, List.getElem?_eq_getElem hlt⟩
      have u := n2 i t ht
      have w := okS.2 t (List.mem_of_getElem? ht)
      have s1 := hP.2.2.2.2.1 t.1 w.1 w.2.1
      have q1 := k_stopBy hS hP c.1 w.1 w.2.1 h3 h4
      have q2 : 0 ≤ vst2 (xP X) t.1 v ∧ vst2 (xP X) t.1 v ≤ vsz (xP X) t.1 - 1 := vgo_r (by omega) (by omega) (by omega) h3
      have ih1 := ih (i + 1) (by omega)
      rw [Int.natCast_add, Int.natCast_one] at ih1
      rw [b_Si_fits_2, split i t ht]
      by_cases h : vst2 (xP X) t.1 v = t.2
      · rw [show bo (vft (xP X) v (t :: (xS X).drop (i + 1))) = bo (vft (xP X) v ((xS X).drop (i + 1))) from bo_c ⟨fun z => z.2, fun z => ⟨h, z⟩⟩]
        simp (disch := omega) only [b_Si_fits_10, b_Si_fits_21, b_Si_fits_32, si0, si1, si2, si3, si4, si5, si6, si7, n1, u.1, u.2, q1, ih1, am_ck_T, am_ck_t, am_cif_t, am_cif_f, am_cif_T, am_cif_F, am_then_s, am_push_s, am_push_n, true_and, and_true, true_or, or_true, Int.cast_ofNat_Int, am_02, am_22, not_true_eq_false, not_false_eq_true]
      · rw [bo_f (show ¬ vft (xP X) v (t :: (xS X).drop (i + 1)) from fun z => h z.1)]
        simp (disch := omega) only [b_Si_fits_10, b_Si_fits_21, b_Si_fits_30, si0, si1, si2, si3, si4, si5, si6, si7, n1, u.1, u.2, q1, am_ck_T, am_ck_t, am_cif_t, am_cif_f, am_cif_T, am_cif_F, am_then_s, am_push_s, am_push_n, true_and, and_true, true_or, or_true, Int.cast_ofNat_Int, am_02, am_22, not_true_eq_false, not_false_eq_true]
  have l0 := loop (xS X).length 0 (by omega)
  rw [List.drop_zero] at l0
  have l1 : am_R 50 2 [some (am_r 146), some (am_i v), some (am_i 0)] [] S M = some (some (am_i (bo (vft (xP X) v (xS X)))), S, M) := l0
  simp (disch := omega) only [c_Si_fits, b_Si_fits_0, l1, am_ck_T, am_ck_t, am_cif_t, am_cif_f, am_cif_T, am_cif_F, am_then_s, am_push_s, am_push_n, true_and, and_true, true_or, or_true, Int.cast_ofNat_Int, am_02, am_22, not_true_eq_false, not_false_eq_true]
theorem k_fitting (hS : ly S) (ok : okX B X) (c : CX X M) : am_call 51 [am_r 146] S M = some (some (am_i (vcl (xP X) (xS X) 10 0 0)), S, M) := by
  obtain ⟨si0, si1, si2, si3, si4, si5, si6, si7⟩ := hS.2.2.2.2.2.2.2.1
  have loop : ∀ (n : Nat) (v a : Int), 0 ≤ v → v + n = 10 → am_R 51 4 [some (am_r 146), some (am_i a), some (am_i v)] [] S M = some (some (am_i (vcl (xP X) (xS X) n v a)), S, M) := by
    intro n
    induction n with
    | zero =>
      intro v a h1 h2
      rw [b_Si_fitting_4]
      simp (disch := omega) only [b_Si_fitting_30, vcl, am_ck_T, am_ck_t, am_cif_t, am_cif_f, am_cif_T, am_cif_F, am_then_s, am_push_s, am_push_n, true_and, and_true, true_or, or_true, Int.cast_ofNat_Int, am_02, am_22, not_true_eq_false, not_false_eq_true]
    | succ n ih =>
      intro v a h1 h2
      have q := k_fits hS ok c h1 (show v ≤ 9 by omega)
      rw [b_Si_fitting_4]
      unfold vcl
      by_cases h : vft (xP X) v (xS X)
      · rw [bo_t h] at q
        rw [am_cif_t (show vft (xP X) v (xS X) from h)]
        have ih1 := ih (v + 1) (am_or a (am_shl 1 v)) (by omega) (by omega)
        simp (disch := omega) only [b_Si_fitting_10, b_Si_fitting_15, b_Si_fitting_18, b_Si_fitting_24, si0, si1, si2, si3, si4, si5, si6, si7, q, ih1, am_ck_T, am_ck_t, am_cif_t, am_cif_f, am_cif_T, am_cif_F, am_then_s, am_push_s, am_push_n, true_and, and_true, true_or, or_true, Int.cast_ofNat_Int, am_02, am_22, not_true_eq_false, not_false_eq_true]
      · rw [bo_f h] at q
        rw [am_cif_f (show ¬ vft (xP X) v (xS X) from h)]
        have ih1 := ih (v + 1) a (by omega) (by omega)
        simp (disch := omega) only [b_Si_fitting_10, b_Si_fitting_15, b_Si_fitting_24, si0, si1, si2, si3, si4, si5, si6, si7, q, ih1, am_ck_T, am_ck_t, am_cif_t, am_cif_f, am_cif_T, am_cif_F, am_then_s, am_push_s, am_push_n, true_and, and_true, true_or, or_true, Int.cast_ofNat_Int, am_02, am_22, not_true_eq_false, not_false_eq_true]
  have l0 := loop 10 0 0 (by omega) (by omega)
  simp (disch := omega) only [c_Si_fitting, b_Si_fitting_0, l0, am_ck_T, am_ck_t, am_cif_t, am_cif_f, am_cif_T, am_cif_F, am_then_s, am_push_s, am_push_n, true_and, and_true, true_or, or_true, Int.cast_ofNat_Int, am_02, am_22, not_true_eq_false, not_false_eq_true]
end COULD
