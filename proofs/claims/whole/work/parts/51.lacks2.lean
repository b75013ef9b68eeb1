/-! lacks: the command -/
section LACKS2
variable {S : am_S} {M M1 : am_M} {X : vX} {B : Int} {P : vP} {R : vR}
/-- the least and its line go together -/
def okL (s : Int × Int) : Prop := (s.1 = -1 ∧ s.2 = -1) ∨ (0 ≤ s.1 ∧ s.1 ≤ 108 ∧ 0 ≤ s.2 ∧ s.2 < 6)
theorem vll_step (hP : okP P) (hR : okR P B R) {p g l : Int} (h1 : 0 ≤ l) (h2 : l < vnl P) (h3 : 0 ≤ p) (h4 : p < vnp P) {s : Int × Int} (hs : okL s) : okL (if vlo P R p g l ≠ -1 ∧ (s.1 = -1 ∨ vlo P R p g l < s.1) then (vlo P R p g l, l) else s) := by
  have hP1 := hP.1
  have hP2 := hP.2.1
  have hP3 := hP.2.2.1
  have hP4 := hP.2.2.2.1
  have r := vlo_rng (g := g) hP hR h1 h2 h3 h4
  by_cases h : vlo P R p g l ≠ -1 ∧ (s.1 = -1 ∨ vlo P R p g l < s.1)
  · rw [if_pos h]; exact Or.inr (by omega)
  · rw [if_neg h]; exact hs
theorem vll_ok (hP : okP P) (hR : okR P B R) {p g : Int} (h3 : 0 ≤ p) (h4 : p < vnp P) : ∀ (n : Nat) (l : Int) (s : Int × Int), 0 ≤ l → l + n ≤ vnl P → okL s → okL (vll P R p g n l s) := by
  intro n
  induction n with
  | zero => intro l s _ _ hs; exact hs
  | succ n ih =>
    intro l s l1 l2 hs
    exact ih (l + 1) _ (by omega) (by omega) (vll_step hP hR l1 (by omega) h3 h4 hs)
theorem p_lacks (hS : ly S) {p q w : Int} (i1 : am_Ri p) (i2 : am_Ri q) (i3 : am_Ri w) : Pr S 81 159 [am_i p, am_i q, am_i w] := by
  intro B X h0 h1 ok
  obtain ⟨tp0, tp1, tp2, tp3, tp4, tp5, tp6, tp7, tp8, tp9⟩ := hS.1
  obtain ⟨pl0, pl1, pl2, pl3, pl4, pl5, pl6, pl7, pl8⟩ := hS.2.1
  obtain ⟨mo0, ⟨mr0, mr1, mr2, mr3, mr4, mr5, mr6, mr7, mr8, mr9, mr10, mr11⟩, mk0, mk1, mk2, mk3, mk4, mk5, mk6, mk7, mk8, mk9, mk10, mk11⟩ := hS.2.2.2.2.2.2.2.2.2.2
  have hP := ok.1
  have hR := ok.2.1
  have hP1 := hP.1
  have hP2 := hP.2.1
  have hP3 := hP.2.2.1
  have hP4 := hP.2.2.2.1
  have lf14 : lf 14 := by unfold lf; omega
  have li0 := (hS.2.2.2.2.1 14 lf14).1
  by_cases hp : 0 ≤ p ∧ p < vnp (xP X)
  · by_cases hq : 0 ≤ q ∧ q < vnp (xP X)
    · by_cases hpq : p = q
      · refine ⟨-1000000001, X, ⟨by omega, by omega⟩, okX_B ok (by omega), CC_id (fun M c => ?_), MM_id (fun M c => ?_)⟩
        · have e1 := k_isPerson hS hP c.1 i1
          have e2 := k_isPerson hS hP c.1 i2
          rw [bo_t hp] at e1
          rw [bo_t hq] at e2
          simp (disch := omega) only [c_Pe_lacks, b_Pe_lacks_0, b_Pe_lacks_5, b_Pe_lacks_8, b_Pe_lacks_13, b_Pe_lacks_16, b_Pe_lacks_21, tp0, tp1, tp2, tp3, tp4, tp5, tp6, tp7, tp8, tp9, e1, e2, am_ck_T, am_ck_t, am_cif_t, am_cif_f, am_cif_T, am_cif_F, am_then_s, am_push_s, am_push_n, true_and, and_true, true_or, or_true, Int.cast_ofNat_Int, am_02, am_22, not_true_eq_false, not_false_eq_true]
        · have e1 := m_isPerson hS hP c.1 i1
          have e2 := m_isPerson hS hP c.1 i2
          rw [bo_t hp] at e1
          rw [bo_t hq] at e2
          simp (disch := omega) only [c_Mo_lacks, b_Mo_lacks_0, b_Mo_lacks_5, b_Mo_lacks_8, b_Mo_lacks_13, b_Mo_lacks_16, b_Mo_lacks_21, mo0, mr0, mr1, mr2, mr3, mr4, mr5, mr6, mr7, mr8, mr9, mr10, mr11, mk0, mk1, mk2, mk3, mk4, mk5, mk6, mk7, mk8, mk9, mk10, mk11, e1, e2, am_ck_T, am_ck_t, am_cif_t, am_cif_f, am_cif_T, am_cif_F, am_then_s, am_push_s, am_push_n, true_and, and_true, true_or, or_true, Int.cast_ofNat_Int, am_02, am_22, not_true_eq_false, not_false_eq_true]
      · by_cases hw : 0 ≤ w ∧ w ≤ 1
        · have fin := vll_ok (g := q) hP hR hp.1 hp.2 (vnl (xP X)).toNat 0 (-1, -1) (by omega) (by omega) (Or.inl ⟨rfl, rfl⟩)
          have fin2 : am_Ri (if w = 0 then (vll (xP X) (xR X) p q (vnl (xP X)).toNat 0 (-1, -1)).1 else (vll (xP X) (xR X) p q (vnl (xP X)).toNat 0 (-1, -1)).2) := by
            unfold okL at fin
            by_cases w0 : w = 0
            · rw [if_pos w0]; exact ⟨by omega, by omega⟩
            · rw [if_neg w0]; exact ⟨by omega, by omega⟩
          refine ⟨if w = 0 then (vll (xP X) (xR X) p q (vnl (xP X)).toNat 0 (-1, -1)).1 else (vll (xP X) (xR X) p q (vnl (xP X)).toNat 0 (-1, -1)).2, X, fin2, okX_B ok (by omega), CC_id (fun M c => ?_), MM_id (fun M c => ?_)⟩
          · have e1 := k_isPerson hS hP c.1 i1
            have e2 := k_isPerson hS hP c.1 i2
            rw [bo_t hp] at e1
            rw [bo_t hq] at e2
            have nl := c.1.2.1
            have loop : ∀ (n : Nat) (l : Int) (s : Int × Int) (o : Option am_V), 0 ≤ l → l + n = vnl (xP X) → okL s → am_R 81 45 [some (am_r 1), some (am_i p), some (am_i q), some (am_i w), some (am_i s.1), some (am_i s.2), some (am_i l), o] [] S M = some (some (am_i (if w = 0 then (vll (xP X) (xR X) p q n l s).1 else (vll (xP X) (xR X) p q n l s).2)), S, M) := by
              intro n
              induction n with
              | zero =>
                intro l s o l1 l2 hs
                rw [b_Pe_lacks_45]
                by_cases w0 : w = 0
                · rw [if_pos w0]
                  simp (disch := omega) only [b_Pe_lacks_103, b_Pe_lacks_107, b_Pe_lacks_114, tp0, tp1, tp2, tp3, tp4, tp5, tp6, tp7, tp8, tp9, pl0, pl1, pl2, pl3, pl4, pl5, pl6, pl7, pl8, nl, vll, am_ck_T, am_ck_t, am_cif_t, am_cif_f, am_cif_T, am_cif_F, am_then_s, am_push_s, am_push_n, true_and, and_true, true_or, or_true, Int.cast_ofNat_Int, am_02, am_22, not_true_eq_false, not_false_eq_true]
                · rw [if_neg w0]
                  simp (disch := omega) only [b_Pe_lacks_103, b_Pe_lacks_112, b_Pe_lacks_114, tp0, tp1, tp2, tp3, tp4, tp5, tp6, tp7, tp8, tp9, pl0, pl1, pl2, pl3, pl4, pl5, pl6, pl7, pl8, nl, vll, am_ck_T, am_ck_t, am_cif_t, am_cif_f, am_cif_T, am_cif_F, am_then_s, am_push_s, am_push_n, true_and, and_true, true_or, or_true, Int.cast_ofNat_Int, am_02, am_22, not_true_eq_false, not_false_eq_true]
              | succ n ih =>
                intro l s o l1 l2 hs
                have q1 := k_lackOn hS hP hR c.1 c.2.1 l1 (show l < vnl (xP X) by omega) hp.1 hp.2 hq.1 hq.2
                have lo := vlo_rng (g := q) hP hR l1 (show l < vnl (xP X) by omega) hp.1 hp.2
                have st := vll_step (g := q) hP hR l1 (show l < vnl (xP X) by omega) hp.1 hp.2 hs
                have ih1 := ih (l + 1) _ (some (am_i (vlo (xP X) (xR X) p q l))) (by omega) (by omega) st
                have uf : vll (xP X) (xR X) p q (n + 1) l s = vll (xP X) (xR X) p q n (l + 1) (if vlo (xP X) (xR X) p q l ≠ -1 ∧ (s.1 = -1 ∨ vlo (xP X) (xR X) p q l < s.1) then (vlo (xP X) (xR X) p q l, l) else s) := rfl
                rw [uf, ← ih1, b_Pe_lacks_45]
                unfold okL at hs
                by_cases ha : vlo (xP X) (xR X) p q l = -1
                · rw [if_neg (show ¬ (vlo (xP X) (xR X) p q l ≠ -1 ∧ (s.1 = -1 ∨ vlo (xP X) (xR X) p q l < s.1)) by omega)]
                  simp (disch := omega) only [b_Pe_lacks_57, b_Pe_lacks_68, b_Pe_lacks_97, tp0, tp1, tp2, tp3, tp4, tp5, tp6, tp7, tp8, tp9, pl0, pl1, pl2, pl3, pl4, pl5, pl6, pl7, pl8, nl, li0, q1, am_ck_T, am_ck_t, am_cif_t, am_cif_f, am_cif_T, am_cif_F, am_then_s, am_push_s, am_push_n, true_and, and_true, true_or, or_true, Int.cast_ofNat_Int, am_02, am_22, not_true_eq_false, not_false_eq_true]
                · by_cases hb : s.1 = -1
                  · rw [if_pos (show vlo (xP X) (xR X) p q l ≠ -1 ∧ (s.1 = -1 ∨ vlo (xP X) (xR X) p q l < s.1) by omega)]
                    simp (disch := omega) only [b_Pe_lacks_57, b_Pe_lacks_68, b_Pe_lacks_76, b_Pe_lacks_89, b_Pe_lacks_97, tp0, tp1, tp2, tp3, tp4, tp5, tp6, tp7, tp8, tp9, pl0, pl1, pl2, pl3, pl4, pl5, pl6, pl7, pl8, nl, li0, q1, am_ck_T, am_ck_t, am_cif_t, am_cif_f, am_cif_T, am_cif_F, am_then_s, am_push_s, am_push_n, true_and, and_true, true_or, or_true, Int.cast_ofNat_Int, am_02, am_22, not_true_eq_false, not_false_eq_true]
                  · by_cases hd : vlo (xP X) (xR X) p q l < s.1
                    · rw [if_pos (show vlo (xP X) (xR X) p q l ≠ -1 ∧ (s.1 = -1 ∨ vlo (xP X) (xR X) p q l < s.1) by omega)]
                      simp (disch := omega) only [b_Pe_lacks_57, b_Pe_lacks_68, b_Pe_lacks_76, b_Pe_lacks_82, b_Pe_lacks_89, b_Pe_lacks_97, tp0, tp1, tp2, tp3, tp4, tp5, tp6, tp7, tp8, tp9, pl0, pl1, pl2, pl3, pl4, pl5, pl6, pl7, pl8, nl, li0, q1, am_ck_T, am_ck_t, am_cif_t, am_cif_f, am_cif_T, am_cif_F, am_then_s, am_push_s, am_push_n, true_and, and_true, true_or, or_true, Int.cast_ofNat_Int, am_02, am_22, not_true_eq_false, not_false_eq_true]
                    · rw [if_neg (show ¬ (vlo (xP X) (xR X) p q l ≠ -1 ∧ (s.1 = -1 ∨ vlo (xP X) (xR X) p q l < s.1)) by omega)]
                      simp (disch := omega) only [b_Pe_lacks_57, b_Pe_lacks_68, b_Pe_lacks_76, b_Pe_lacks_82, b_Pe_lacks_97, tp0, tp1, tp2, tp3, tp4, tp5, tp6, tp7, tp8, tp9, pl0, pl1, pl2, pl3, pl4, pl5, pl6, pl7, pl8, nl, li0, q1, am_ck_T, am_ck_t, am_cif_t, am_cif_f, am_cif_T, am_cif_F, am_then_s, am_push_s, am_push_n, true_and, and_true, true_or, or_true, Int.cast_ofNat_Int, am_02, am_22, not_true_eq_false, not_false_eq_true]
            have l0 := loop (vnl (xP X)).toNat 0 (-1, -1) none (by omega) (by omega) (Or.inl ⟨rfl, rfl⟩)
            simp (disch := omega) only [c_Pe_lacks, b_Pe_lacks_0, b_Pe_lacks_5, b_Pe_lacks_8, b_Pe_lacks_13, b_Pe_lacks_16, b_Pe_lacks_24, b_Pe_lacks_28, b_Pe_lacks_36, tp0, tp1, tp2, tp3, tp4, tp5, tp6, tp7, tp8, tp9, e1, e2, l0, am_ck_T, am_ck_t, am_cif_t, am_cif_f, am_cif_T, am_cif_F, am_then_s, am_push_s, am_push_n, true_and, and_true, true_or, or_true, Int.cast_ofNat_Int, am_02, am_22, not_true_eq_false, not_false_eq_true]
          · have e1 := m_isPerson hS hP c.1 i1
            have e2 := m_isPerson hS hP c.1 i2
            have e0 := m_in (S := S) (M := M) (v := w) (lo := 0) (hi := 1) ⟨by omega, by omega⟩ ⟨by omega, by omega⟩ ⟨by omega, by omega⟩
            rw [bo_t hp] at e1
            rw [bo_t hq] at e2
            rw [bo_t hw] at e0
            have nl := c.1.2.1
            have loop : ∀ (n : Nat) (l : Int) (s : Int × Int) (t : Int) (o : Option am_V), 0 ≤ l → l + n = vnl (xP X) → okL s → t = (if s.1 = -1 then 99999999 else s.1) → am_R 159 47 [some (am_r 164), some (am_i p), some (am_i q), some (am_i w), some (am_i s.2), some (am_i t), some (am_i l), o] [] S M = some (some (am_i (if w = 0 then (vll (xP X) (xR X) p q n l s).1 else (vll (xP X) (xR X) p q n l s).2)), S, M) := by
              intro n
              induction n with
              | zero =>
                intro l s t o l1 l2 hs ht
                rw [b_Mo_lacks_47]
                unfold okL at hs
                by_cases w0 : w = 0
                · rw [if_pos w0]
                  by_cases hb : s.1 = -1
                  · have hb2 : s.2 = -1 := by omega
                    simp (disch := omega) only [b_Mo_lacks_104, b_Mo_lacks_115, b_Mo_lacks_122, mo0, mr0, mr1, mr2, mr3, mr4, mr5, mr6, mr7, mr8, mr9, mr10, mr11, mk0, mk1, mk2, mk3, mk4, mk5, mk6, mk7, mk8, mk9, mk10, mk11, nl, vll, hb, hb2, am_ck_T, am_ck_t, am_cif_t, am_cif_f, am_cif_T, am_cif_F, am_then_s, am_push_s, am_push_n, true_and, and_true, true_or, or_true, Int.cast_ofNat_Int, am_02, am_22, not_true_eq_false, not_false_eq_true]
                  · rw [if_neg hb] at ht
                    subst ht
                    simp (disch := omega) only [b_Mo_lacks_104, b_Mo_lacks_110, b_Mo_lacks_120, b_Mo_lacks_122, mo0, mr0, mr1, mr2, mr3, mr4, mr5, mr6, mr7, mr8, mr9, mr10, mr11, mk0, mk1, mk2, mk3, mk4, mk5, mk6, mk7, mk8, mk9, mk10, mk11, nl, vll, am_ck_T, am_ck_t, am_cif_t, am_cif_f, am_cif_T, am_cif_F, am_then_s, am_push_s, am_push_n, true_and, and_true, true_or, or_true, Int.cast_ofNat_Int, am_02, am_22, not_true_eq_false, not_false_eq_true]
                · rw [if_neg w0]
                  by_cases hb : s.1 = -1
                  · simp (disch := omega) only [b_Mo_lacks_104, b_Mo_lacks_115, b_Mo_lacks_122, mo0, mr0, mr1, mr2, mr3, mr4, mr5, mr6, mr7, mr8, mr9, mr10, mr11, mk0, mk1, mk2, mk3, mk4, mk5, mk6, mk7, mk8, mk9, mk10, mk11, nl, vll, am_ck_T, am_ck_t, am_cif_t, am_cif_f, am_cif_T, am_cif_F, am_then_s, am_push_s, am_push_n, true_and, and_true, true_or, or_true, Int.cast_ofNat_Int, am_02, am_22, not_true_eq_false, not_false_eq_true]
                  · simp (disch := omega) only [b_Mo_lacks_104, b_Mo_lacks_110, b_Mo_lacks_115, b_Mo_lacks_122, mo0, mr0, mr1, mr2, mr3, mr4, mr5, mr6, mr7, mr8, mr9, mr10, mr11, mk0, mk1, mk2, mk3, mk4, mk5, mk6, mk7, mk8, mk9, mk10, mk11, nl, vll, am_ck_T, am_ck_t, am_cif_t, am_cif_f, am_cif_T, am_cif_F, am_then_s, am_push_s, am_push_n, true_and, and_true, true_or, or_true, Int.cast_ofNat_Int, am_02, am_22, not_true_eq_false, not_false_eq_true]
              | succ n ih =>
                intro l s t o l1 l2 hs ht
                have q1 := m_lacksBy hS hP hR c.1 c.2.1 l1 (show l < vnl (xP X) by omega) hp.1 hp.2 hq.1 hq.2
                have lo := vlo_rng (g := q) hP hR l1 (show l < vnl (xP X) by omega) hp.1 hp.2
                have st := vll_step (g := q) hP hR l1 (show l < vnl (xP X) by omega) hp.1 hp.2 hs
                have ih0 := ih (l + 1) _ _ (some (am_i (if vlo (xP X) (xR X) p q l = -1 then 99999999 else vlo (xP X) (xR X) p q l))) (by omega) (by omega) st rfl
                have uf : vll (xP X) (xR X) p q (n + 1) l s = vll (xP X) (xR X) p q n (l + 1) (if vlo (xP X) (xR X) p q l ≠ -1 ∧ (s.1 = -1 ∨ vlo (xP X) (xR X) p q l < s.1) then (vlo (xP X) (xR X) p q l, l) else s) := rfl
                rw [uf, ← ih0, b_Mo_lacks_47]
                unfold okL at hs
                by_cases ha : vlo (xP X) (xR X) p q l = -1
                · rw [if_neg (show ¬ (vlo (xP X) (xR X) p q l ≠ -1 ∧ (s.1 = -1 ∨ vlo (xP X) (xR X) p q l < s.1)) by omega), ← ht, if_pos ha]
                  rw [if_pos ha] at q1
                  have tb : t ≤ 99999999 ∧ 0 ≤ t := by
                    rw [ht]
                    by_cases hb : s.1 = -1
                    · rw [if_pos hb]; omega
                    · rw [if_neg hb]; omega
                  simp (disch := omega) only [b_Mo_lacks_56, b_Mo_lacks_64, b_Mo_lacks_78, b_Mo_lacks_80, b_Mo_lacks_94, b_Mo_lacks_96, mo0, mr0, mr1, mr2, mr3, mr4, mr5, mr6, mr7, mr8, mr9, mr10, mr11, mk0, mk1, mk2, mk3, mk4, mk5, mk6, mk7, mk8, mk9, mk10, mk11, nl, q1, am_ck_T, am_ck_t, am_cif_t, am_cif_f, am_cif_T, am_cif_F, am_then_s, am_push_s, am_push_n, true_and, and_true, true_or, or_true, Int.cast_ofNat_Int, am_02, am_22, not_true_eq_false, not_false_eq_true]
                · rw [if_neg ha] at q1
                  by_cases hb : s.1 = -1 ∨ vlo (xP X) (xR X) p q l < s.1
                  · have tb : vlo (xP X) (xR X) p q l < t ∧ t ≤ 99999999 := by
                      rw [ht]
                      by_cases hb : s.1 = -1
                      · rw [if_pos hb]; omega
                      · rw [if_neg hb]; omega
                    rw [if_pos (show vlo (xP X) (xR X) p q l ≠ -1 ∧ (s.1 = -1 ∨ vlo (xP X) (xR X) p q l < s.1) from ⟨ha, hb⟩)]
                    rw [if_neg ha]
                    simp (disch := omega) only [b_Mo_lacks_56, b_Mo_lacks_64, b_Mo_lacks_73, b_Mo_lacks_80, b_Mo_lacks_89, b_Mo_lacks_96, mo0, mr0, mr1, mr2, mr3, mr4, mr5, mr6, mr7, mr8, mr9, mr10, mr11, mk0, mk1, mk2, mk3, mk4, mk5, mk6, mk7, mk8, mk9, mk10, mk11, nl, q1, am_ck_T, am_ck_t, am_cif_t, am_cif_f, am_cif_T, am_cif_F, am_then_s, am_push_s, am_push_n, true_and, and_true, true_or, or_true, Int.cast_ofNat_Int, am_02, am_22, not_true_eq_false, not_false_eq_true]
                  · have tb : t ≤ vlo (xP X) (xR X) p q l ∧ 0 ≤ t := by
                      rw [ht, if_neg (by omega)]; omega
                    rw [if_neg (show ¬ (vlo (xP X) (xR X) p q l ≠ -1 ∧ (s.1 = -1 ∨ vlo (xP X) (xR X) p q l < s.1)) from fun h => hb h.2), ← ht, if_neg ha]
                    simp (disch := omega) only [b_Mo_lacks_56, b_Mo_lacks_64, b_Mo_lacks_78, b_Mo_lacks_80, b_Mo_lacks_94, b_Mo_lacks_96, mo0, mr0, mr1, mr2, mr3, mr4, mr5, mr6, mr7, mr8, mr9, mr10, mr11, mk0, mk1, mk2, mk3, mk4, mk5, mk6, mk7, mk8, mk9, mk10, mk11, nl, q1, am_ck_T, am_ck_t, am_cif_t, am_cif_f, am_cif_T, am_cif_F, am_then_s, am_push_s, am_push_n, true_and, and_true, true_or, or_true, Int.cast_ofNat_Int, am_02, am_22, not_true_eq_false, not_false_eq_true]
            have l0 := loop (vnl (xP X)).toNat 0 (-1, -1) 99999999 none (by omega) (by omega) (Or.inl ⟨rfl, rfl⟩) rfl
            simp (disch := omega) only [c_Mo_lacks, b_Mo_lacks_0, b_Mo_lacks_5, b_Mo_lacks_8, b_Mo_lacks_13, b_Mo_lacks_16, b_Mo_lacks_24, b_Mo_lacks_31, b_Mo_lacks_37, mo0, mr0, mr1, mr2, mr3, mr4, mr5, mr6, mr7, mr8, mr9, mr10, mr11, mk0, mk1, mk2, mk3, mk4, mk5, mk6, mk7, mk8, mk9, mk10, mk11, e0, e1, e2, l0, am_ck_T, am_ck_t, am_cif_t, am_cif_f, am_cif_T, am_cif_F, am_then_s, am_push_s, am_push_n, true_and, and_true, true_or, or_true, Int.cast_ofNat_Int, am_02, am_22, not_true_eq_false, not_false_eq_true]
        · refine ⟨-1000000002, X, ⟨by omega, by omega⟩, okX_B ok (by omega), CC_id (fun M c => ?_), MM_id (fun M c => ?_)⟩
          · have e1 := k_isPerson hS hP c.1 i1
            have e2 := k_isPerson hS hP c.1 i2
            rw [bo_t hp] at e1
            rw [bo_t hq] at e2
            by_cases w0 : w < 0
            · simp (disch := omega) only [c_Pe_lacks, b_Pe_lacks_0, b_Pe_lacks_5, b_Pe_lacks_8, b_Pe_lacks_13, b_Pe_lacks_16, b_Pe_lacks_24, b_Pe_lacks_33, tp0, tp1, tp2, tp3, tp4, tp5, tp6, tp7, tp8, tp9, e1, e2, am_ck_T, am_ck_t, am_cif_t, am_cif_f, am_cif_T, am_cif_F, am_then_s, am_push_s, am_push_n, true_and, and_true, true_or, or_true, Int.cast_ofNat_Int, am_02, am_22, not_true_eq_false, not_false_eq_true]
            · simp (disch := omega) only [c_Pe_lacks, b_Pe_lacks_0, b_Pe_lacks_5, b_Pe_lacks_8, b_Pe_lacks_13, b_Pe_lacks_16, b_Pe_lacks_24, b_Pe_lacks_28, b_Pe_lacks_33, tp0, tp1, tp2, tp3, tp4, tp5, tp6, tp7, tp8, tp9, e1, e2, am_ck_T, am_ck_t, am_cif_t, am_cif_f, am_cif_T, am_cif_F, am_then_s, am_push_s, am_push_n, true_and, and_true, true_or, or_true, Int.cast_ofNat_Int, am_02, am_22, not_true_eq_false, not_false_eq_true]
          · have e1 := m_isPerson hS hP c.1 i1
            have e2 := m_isPerson hS hP c.1 i2
            have e0 := m_in (S := S) (M := M) (v := w) (lo := 0) (hi := 1) ⟨by omega, by omega⟩ ⟨by omega, by omega⟩ ⟨by omega, by omega⟩
            rw [bo_t hp] at e1
            rw [bo_t hq] at e2
            rw [bo_f hw] at e0
            simp (disch := omega) only [c_Mo_lacks, b_Mo_lacks_0, b_Mo_lacks_5, b_Mo_lacks_8, b_Mo_lacks_13, b_Mo_lacks_16, b_Mo_lacks_24, b_Mo_lacks_31, b_Mo_lacks_34, mo0, mr0, mr1, mr2, mr3, mr4, mr5, mr6, mr7, mr8, mr9, mr10, mr11, mk0, mk1, mk2, mk3, mk4, mk5, mk6, mk7, mk8, mk9, mk10, mk11, e0, e1, e2, am_ck_T, am_ck_t, am_cif_t, am_cif_f, am_cif_T, am_cif_F, am_then_s, am_push_s, am_push_n, true_and, and_true, true_or, or_true, Int.cast_ofNat_Int, am_02, am_22, not_true_eq_false, not_false_eq_true]
    · refine ⟨-1000000001, X, ⟨by omega, by omega⟩, okX_B ok (by omega), CC_id (fun M c => ?_), MM_id (fun M c => ?_)⟩
      · have e1 := k_isPerson hS hP c.1 i1
        have e2 := k_isPerson hS hP c.1 i2
        rw [bo_t hp] at e1
        rw [bo_f hq] at e2
        simp (disch := omega) only [c_Pe_lacks, b_Pe_lacks_0, b_Pe_lacks_5, b_Pe_lacks_8, b_Pe_lacks_13, b_Pe_lacks_21, tp0, tp1, tp2, tp3, tp4, tp5, tp6, tp7, tp8, tp9, e1, e2, am_ck_T, am_ck_t, am_cif_t, am_cif_f, am_cif_T, am_cif_F, am_then_s, am_push_s, am_push_n, true_and, and_true, true_or, or_true, Int.cast_ofNat_Int, am_02, am_22, not_true_eq_false, not_false_eq_true]
      · have e1 := m_isPerson hS hP c.1 i1
        have e2 := m_isPerson hS hP c.1 i2
        rw [bo_t hp] at e1
        rw [bo_f hq] at e2
        simp (disch := omega) only [c_Mo_lacks, b_Mo_lacks_0, b_Mo_lacks_5, b_Mo_lacks_8, b_Mo_lacks_13, b_Mo_lacks_21, mo0, mr0, mr1, mr2, mr3, mr4, mr5, mr6, mr7, mr8, mr9, mr10, mr11, mk0, mk1, mk2, mk3, mk4, mk5, mk6, mk7, mk8, mk9, mk10, mk11, e1, e2, am_ck_T, am_ck_t, am_cif_t, am_cif_f, am_cif_T, am_cif_F, am_then_s, am_push_s, am_push_n, true_and, and_true, true_or, or_true, Int.cast_ofNat_Int, am_02, am_22, not_true_eq_false, not_false_eq_true]
  · refine ⟨-1000000001, X, ⟨by omega, by omega⟩, okX_B ok (by omega), CC_id (fun M c => ?_), MM_id (fun M c => ?_)⟩
    · have e1 := k_isPerson hS hP c.1 i1
      rw [bo_f hp] at e1
      simp (disch := omega) only [c_Pe_lacks, b_Pe_lacks_0, b_Pe_lacks_5, b_Pe_lacks_21, tp0, tp1, tp2, tp3, tp4, tp5, tp6, tp7, tp8, tp9, e1, am_ck_T, am_ck_t, am_cif_t, am_cif_f, am_cif_T, am_cif_F, am_then_s, am_push_s, am_push_n, true_and, and_true, true_or, or_true, Int.cast_ofNat_Int, am_02, am_22, not_true_eq_false, not_false_eq_true]
    · have e1 := m_isPerson hS hP c.1 i1
      rw [bo_f hp] at e1
      simp (disch := omega) only [c_Mo_lacks, b_Mo_lacks_0, b_Mo_lacks_5, b_Mo_lacks_21, mo0, mr0, mr1, mr2, mr3, mr4, mr5, mr6, mr7, mr8, mr9, mr10, mr11, mk0, mk1, mk2, mk3, mk4, mk5, mk6, mk7, mk8, mk9, mk10, mk11, e1, am_ck_T, am_ck_t, am_cif_t, am_cif_f, am_cif_T, am_cif_F, am_then_s, am_push_s, am_push_n, true_and, and_true, true_or, or_true, Int.cast_ofNat_Int, am_02, am_22, not_true_eq_false, not_false_eq_true]
end LACKS2
