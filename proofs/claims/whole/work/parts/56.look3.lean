/-! lookAt: the command -/
noncomputable def vbl (P : vP) (a : Int) : Nat → Int → Int × Int → Int × Int
  | 0, _, s => s
  | n + 1, l, s => vbl P a n (l + 1) (if vmx (fun k => vct P a l k 10) < s.2 then (l, vmx (fun k => vct P a l k 10)) else s)
theorem vmx_r {f : Int → Int} (h : ∀ k, 0 ≤ f k ∧ f k ≤ 10) : 0 ≤ vmx f ∧ vmx f ≤ 10 := by
  have a0 := h 0
  have a1 := h 1
  have a2 := h 2
  have a3 := h 3
  have a4 := h 4
  have a5 := h 5
  unfold vmx
  omega
theorem vgp_r (P : vP) (a l : Int) : 0 ≤ vmx (fun k => vct P a l k 10) ∧ vmx (fun k => vct P a l k 10) ≤ 10 := vmx_r (fun k => vct_r P a l k 10)
def okG (s : Int × Int) : Prop := -1 ≤ s.1 ∧ s.1 < 6 ∧ 0 ≤ s.2 ∧ s.2 ≤ 10
theorem vbl_step {P : vP} {a l : Int} (h1 : 0 ≤ l) (h2 : l < 6) {s : Int × Int} (hs : okG s) : okG (if vmx (fun k => vct P a l k 10) < s.2 then (l, vmx (fun k => vct P a l k 10)) else s) := by
  have r := vgp_r P a l
  unfold okG at *
  by_cases h : vmx (fun k => vct P a l k 10) < s.2
  · rw [if_pos h]; exact ⟨by show -1 ≤ l; omega, h2, r.1, r.2⟩
  · rw [if_neg h]; exact hs
theorem vbl_ok {P : vP} {a : Int} : ∀ (n : Nat) (l : Int) (s : Int × Int), 0 ≤ l → l + n ≤ 6 → okG s → okG (vbl P a n l s) := by
  intro n
  induction n with
  | zero => intro l s _ _ hs; exact hs
  | succ n ih => intro l s h1 h2 hs; exact ih (l + 1) _ (by omega) (by omega) (vbl_step h1 (by omega) hs)
section LOOK3
variable {S : am_S} {M M1 : am_M} {X : vX} {B : Int} {P : vP} {R : vR}
theorem bu_cnt (d : Fin 1024) : am_call 178 [am_i (d.val : Int)] S M = some (some (am_i (vsum (fun q => am_and (am_shr (d.val : Int) q) 1) 10 0)), S, M) := by
  rw [c_In_bitCount, b_In_bitCount_0]
  refine congrArg (fun v => some (some (am_i v), S, M)) ?_
  revert d
  decide +kernel
theorem CX_149 (c : CX X M) (h : fr 149 149 M M1) : CX X M1 := CX_ext c (fun k hk j => h k (by omega) j) (cS_fr (fun k _ _ j => h k (by omega) j) c.2.2.2.2.2.1) (cB_fr (fun k _ _ j => h k (by omega) j) c.2.2.2.2.2.2.1) (cT_fr (fun j => h 7 (by omega) j) (fun j => h 13 (by omega) j) c.2.2.2.2.2.2.2.1)
theorem p_lookAt (hS : ly S) : Pr S 88 171 [] := by
  intro B X h0 h1 ok
  obtain ⟨tp0, tp1, tp2, tp3, tp4, tp5, tp6, tp7, tp8, tp9⟩ := hS.1
  obtain ⟨si0, si1, si2, si3, si4, si5, si6, si7⟩ := hS.2.2.2.2.2.2.2.1
  obtain ⟨pl0, pl1, pl2, pl3, pl4, pl5, pl6, pl7, pl8⟩ := hS.2.1
  obtain ⟨mo0, ⟨mr0, mr1, mr2, mr3, mr4, mr5, mr6, mr7, mr8, mr9, mr10, mr11⟩, mk0, mk1, mk2, mk3, mk4, mk5, mk6, mk7, mk8, mk9, mk10, mk11⟩ := hS.2.2.2.2.2.2.2.2.2.2
  have hP := ok.1
  have hP1 := hP.1
  have hP2 := hP.2.1
  have hP3 := hP.2.2.1
  have hP4 := hP.2.2.2.1
  have rv := vcl_rng (xP X) (xS X) 10 0 0 (by omega) (by omega) (by omega) (by omega)
  generalize ha : vcl (xP X) (xS X) 10 0 0 = a at rv
  have cnt := fun (M : am_M) => bu_cnt (S := S) (M := M) ⟨a.toNat, by omega⟩
  have c1 : ((a.toNat : Nat) : Int) = a := by omega
  simp only [c1] at cnt
  have rs := vsum_rng (f := fun q => am_and (am_shr a q) 1) (K := 1) (by omega) 10 0 (fun j _ _ => by have := am_bit_01 (am_shr a j); show 0 ≤ am_and (am_shr a j) 1 ∧ am_and (am_shr a j) 1 ≤ 1; omega)
  have g0 : okG (-1, vsum (fun q => am_and (am_shr a q) 1) 10 0) := ⟨by show (-1 : Int) ≤ -1; omega, by show (-1 : Int) < 6; omega, rs.1, by have := rs.2; show vsum (fun q => am_and (am_shr a q) 1) 10 0 ≤ 10; omega⟩
  have fin := vbl_ok (P := xP X) (a := a) (vnl (xP X)).toNat 0 _ (by omega) (by omega) g0
  refine ⟨(vbl (xP X) a (vnl (xP X)).toNat 0 (-1, vsum (fun q => am_and (am_shr a q) 1) 10 0)).1, X, ⟨by have := fin.1; omega, by have := fin.2.1; omega⟩, okX_B ok (by omega), fun M c => ?_, MM_id (fun M c => ?_)⟩
  · have e := k_fitting hS ok c
    rw [ha] at e
    have loop : ∀ (n : Nat) (l : Int) (s : Int × Int) (o : Option am_V) (M : am_M), 0 ≤ l → l + n = vnl (xP X) → okG s → CX X M → ∃ M1, am_R 52 15 [some (am_r 146), some (am_i a), some (am_i s.1), some (am_i s.2), some (am_i l), o] [] S M = some (some (am_i (vbl (xP X) a n l s).1), S, M1) ∧ CX X M1 ∧ fr 149 149 M M1 := by
      intro n
      induction n with
      | zero =>
        intro l s o M l1 l2 hs c
        have nl := c.1.2.1
        refine ⟨M, ?_, c, fr_rf⟩
        rw [b_Si_bestParting_15]
        simp (disch := omega) only [b_Si_bestParting_54, si0, si1, si2, si3, si4, si5, si6, si7, pl0, pl1, pl2, pl3, pl4, pl5, pl6, pl7, pl8, nl, vbl, am_ck_T, am_ck_t, am_cif_t, am_cif_f, am_cif_T, am_cif_F, am_then_s, am_push_s, am_push_n, true_and, and_true, true_or, or_true, Int.cast_ofNat_Int, am_02, am_22, not_true_eq_false, not_false_eq_true]
      | succ n ih =>
        intro l s o M l1 l2 hs c
        have nl := c.1.2.1
        have r := vgp_r (xP X) a l
        obtain ⟨M1, d1, d2⟩ := k_greatestPart (a := a) hS hP c.1 l1 (show l < vnl (xP X) by omega)
        obtain ⟨M2, f1, f2, f3⟩ := ih (l + 1) _ (some (am_i (vmx (fun k => vct (xP X) a l k 10)))) M1 (by omega) (by omega) (vbl_step (P := xP X) (a := a) l1 (by omega) hs) (CX_149 c d2)
        refine ⟨M2, ?_, f2, fr_tr d2 f3⟩
        have uf : vbl (xP X) a (n + 1) l s = vbl (xP X) a n (l + 1) (if vmx (fun k => vct (xP X) a l k 10) < s.2 then (l, vmx (fun k => vct (xP X) a l k 10)) else s) := rfl
        rw [uf, ← f1, b_Si_bestParting_15]
        unfold okG at hs
        by_cases h : vmx (fun k => vct (xP X) a l k 10) < s.2
        · rw [if_pos h]
          simp (disch := omega) only [b_Si_bestParting_27, b_Si_bestParting_34, b_Si_bestParting_42, b_Si_bestParting_48, si0, si1, si2, si3, si4, si5, si6, si7, pl0, pl1, pl2, pl3, pl4, pl5, pl6, pl7, pl8, nl, d1, am_ck_T, am_ck_t, am_cif_t, am_cif_f, am_cif_T, am_cif_F, am_then_s, am_push_s, am_push_n, true_and, and_true, true_or, or_true, Int.cast_ofNat_Int, am_02, am_22, not_true_eq_false, not_false_eq_true]
        · rw [if_neg h]
          simp (disch := omega) only [b_Si_bestParting_27, b_Si_bestParting_34, b_Si_bestParting_48, si0, si1, si2, si3, si4, si5, si6, si7, pl0, pl1, pl2, pl3, pl4, pl5, pl6, pl7, pl8, nl, d1, am_ck_T, am_ck_t, am_cif_t, am_cif_f, am_cif_T, am_cif_F, am_then_s, am_push_s, am_push_n, true_and, and_true, true_or, or_true, Int.cast_ofNat_Int, am_02, am_22, not_true_eq_false, not_false_eq_true]
    obtain ⟨M1, d1, d2, d3⟩ := loop (vnl (xP X)).toNat 0 (-1, vsum (fun q => am_and (am_shr a q) 1) 10 0) none M (by omega) (by omega) g0 c
    refine ⟨M1, ?_, d2, fr_mono d3 (by omega) (by omega)⟩
    simp (disch := omega) only [c_Pe_lookAt, b_Pe_lookAt_0, b_Pe_lookAt_7, c_Si_bestParting, b_Si_bestParting_0, b_Si_bestParting_4, b_Si_bestParting_11, tp0, tp1, tp2, tp3, tp4, tp5, tp6, tp7, tp8, tp9, si0, si1, si2, si3, si4, si5, si6, si7, e, cnt, d1, am_ck_T, am_ck_t, am_cif_t, am_cif_f, am_cif_T, am_cif_F, am_then_s, am_push_s, am_push_n, true_and, and_true, true_or, or_true, Int.cast_ofNat_Int, am_02, am_22, not_true_eq_false, not_false_eq_true]
  · have e := m_could hS ok c
    rw [ha] at e
    have nl := c.1.2.1
    have cl : ∀ (n : Nat) (v s : Int), 0 ≤ v → v + n = 10 → am_R 171 9 [some (am_r 164), some (am_i a), some (am_i s), some (am_i v), none, none] [] S M = am_R 171 29 [some (am_r 164), some (am_i a), some (am_i (s + vsum (fun q => am_and (am_shr a q) 1) n v)), some (am_i 10), none, none] [] S M := by
      intro n
      induction n with
      | zero =>
        intro v s v1 v2
        obtain rfl : v = 10 := by omega
        rw [b_Mo_lookAt_9]
        simp (disch := omega) only [vsum, Int.add_zero, am_ck_T, am_ck_t, am_cif_t, am_cif_f, am_cif_T, am_cif_F, am_then_s, am_push_s, am_push_n, true_and, and_true, true_or, or_true, Int.cast_ofNat_Int, am_02, am_22, not_true_eq_false, not_false_eq_true]
      | succ n ih =>
        intro v s v1 v2
        have ih1 := ih (v + 1) (s + am_and (am_shr a v) 1) (by omega) (by omega)
        rw [b_Mo_lookAt_9]
        simp (disch := omega) only [b_Mo_lookAt_15, ih1, vsum, Int.add_assoc, am_ck_T, am_ck_t, am_cif_t, am_cif_f, am_cif_T, am_cif_F, am_then_s, am_push_s, am_push_n, true_and, and_true, true_or, or_true, Int.cast_ofNat_Int, am_02, am_22, not_true_eq_false, not_false_eq_true]
    have loop : ∀ (n : Nat) (l : Int) (s : Int × Int) (o : Option am_V), 0 ≤ l → l + n = vnl (xP X) → okG s → am_R 171 34 [some (am_r 164), some (am_i a), some (am_i s.2), some (am_i s.1), some (am_i l), o] [] S M = some (some (am_i (vbl (xP X) a n l s).1), S, M) := by
      intro n
      induction n with
      | zero =>
        intro l s o l1 l2 hs
        rw [b_Mo_lookAt_34]
        simp (disch := omega) only [b_Mo_lookAt_84, mo0, mr0, mr1, mr2, mr3, mr4, mr5, mr6, mr7, mr8, mr9, mr10, mr11, mk0, mk1, mk2, mk3, mk4, mk5, mk6, mk7, mk8, mk9, mk10, mk11, nl, vbl, am_ck_T, am_ck_t, am_cif_t, am_cif_f, am_cif_T, am_cif_F, am_then_s, am_push_s, am_push_n, true_and, and_true, true_or, or_true, Int.cast_ofNat_Int, am_02, am_22, not_true_eq_false, not_false_eq_true]
      | succ n ih =>
        intro l s o l1 l2 hs
        have r := vgp_r (xP X) a l
        have d1 := m_greatestPart (a := a) hS hP c.1 l1 (show l < vnl (xP X) by omega)
        have f1 := ih (l + 1) _ (some (am_i (vmx (fun k => vct (xP X) a l k 10)))) (by omega) (by omega) (vbl_step (P := xP X) (a := a) l1 (by omega) hs)
        have uf : vbl (xP X) a (n + 1) l s = vbl (xP X) a n (l + 1) (if vmx (fun k => vct (xP X) a l k 10) < s.2 then (l, vmx (fun k => vct (xP X) a l k 10)) else s) := rfl
        rw [uf, ← f1, b_Mo_lookAt_34]
        unfold okG at hs
        by_cases h : vmx (fun k => vct (xP X) a l k 10) < s.2
        · rw [if_pos h]
          simp (disch := omega) only [b_Mo_lookAt_43, b_Mo_lookAt_50, b_Mo_lookAt_58, b_Mo_lookAt_64, b_Mo_lookAt_71, b_Mo_lookAt_77, mo0, mr0, mr1, mr2, mr3, mr4, mr5, mr6, mr7, mr8, mr9, mr10, mr11, mk0, mk1, mk2, mk3, mk4, mk5, mk6, mk7, mk8, mk9, mk10, mk11, nl, d1, am_ck_T, am_ck_t, am_cif_t, am_cif_f, am_cif_T, am_cif_F, am_then_s, am_push_s, am_push_n, true_and, and_true, true_or, or_true, Int.cast_ofNat_Int, am_02, am_22, not_true_eq_false, not_false_eq_true]
        · rw [if_neg h]
          simp (disch := omega) only [b_Mo_lookAt_43, b_Mo_lookAt_50, b_Mo_lookAt_63, b_Mo_lookAt_64, b_Mo_lookAt_76, b_Mo_lookAt_77, mo0, mr0, mr1, mr2, mr3, mr4, mr5, mr6, mr7, mr8, mr9, mr10, mr11, mk0, mk1, mk2, mk3, mk4, mk5, mk6, mk7, mk8, mk9, mk10, mk11, nl, d1, am_ck_T, am_ck_t, am_cif_t, am_cif_f, am_cif_T, am_cif_F, am_then_s, am_push_s, am_push_n, true_and, and_true, true_or, or_true, Int.cast_ofNat_Int, am_02, am_22, not_true_eq_false, not_false_eq_true]
    have q1 := cl 10 0 0 (by omega) (by omega)
    rw [Int.zero_add] at q1
    have d1 := loop (vnl (xP X)).toNat 0 (-1, vsum (fun q => am_and (am_shr a q) 1) 10 0) none (by omega) (by omega) g0
    simp (disch := omega) only [c_Mo_lookAt, b_Mo_lookAt_0, b_Mo_lookAt_4, b_Mo_lookAt_29, mo0, mr0, mr1, mr2, mr3, mr4, mr5, mr6, mr7, mr8, mr9, mr10, mr11, mk0, mk1, mk2, mk3, mk4, mk5, mk6, mk7, mk8, mk9, mk10, mk11, e, q1, d1, am_ck_T, am_ck_t, am_cif_t, am_cif_f, am_cif_T, am_cif_F, am_then_s, am_push_s, am_push_n, true_and, and_true, true_or, or_true, Int.cast_ofNat_Int, am_02, am_22, not_true_eq_false, not_false_eq_true]
end LOOK3
