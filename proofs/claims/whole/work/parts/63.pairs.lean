/-! pairs, told -/
/-- how many others p reaches from its own gate -/
noncomputable def vpc (P : vP) (R : vR) (p : Int) : Int := am_cif (vlv R p) (vsum (fun h => bo (h ≠ p ∧ vrc P R p p h)) (vnp P).toNat 0) 0
noncomputable def vpr (P : vP) (R : vR) : Int := vsum (vpc P R) (vnp P).toNat 0
theorem vsum_one {p : Int} : ∀ (n : Nat) (i : Int), i ≤ p → p < i + n → vsum (fun h => bo (h = p)) n i = 1 := by
  intro n
  induction n with
  | zero => intro i h1 h2; omega
  | succ n ih =>
    intro i h1 h2
    show bo (i = p) + vsum (fun h => bo (h = p)) n (i + 1) = 1
    by_cases e : i = p
    · rw [bo_t e]
      have z : vsum (fun h => bo (h = p)) n (i + 1) = vsum (fun _ => 0) n (i + 1) := vsum_congr n (i + 1) (fun j j1 _ => bo_f (fun w => by omega))
      have z2 := vsum_rng (f := fun _ : Int => 0) (K := 0) (by omega) n (i + 1) (fun j _ _ => ⟨Int.le_refl _, Int.le_refl _⟩)
      rw [z]
      omega
    · rw [bo_f e, ih (i + 1) (by omega) (by omega)]
      omega
section PAIRS
variable {S : am_S} {M M1 : am_M} {X : vX} {B : Int} {P : vP} {R : vR} {b : Nat} {x : Int}
theorem vrc_rng (hP : okP P) (hR : okR P B R) {p g0 : Int} (h5 : 0 ≤ g0) (h6 : g0 < vnp P) : ∀ h, vrc P R p g0 h → 0 ≤ h ∧ h < vnp P := by
  have : ∀ (n : Nat) h, vN (vE P R p (-1)) (fun k => k = g0) n h → 0 ≤ h ∧ h < vnp P := by
    intro n
    induction n with
    | zero => intro h z; exact Q1_rng (P := P) (g0 := g0) ⟨h5, h6⟩ h z
    | succ n ih =>
      intro h z
      rcases z with z | ⟨g, _, e⟩
      · exact ih h z
      · have := vE_rng hP hR g h e; omega
  exact this 7
theorem vpc_cnt (hP : okP P) (hR : okR P B R) {p : Int} (h5 : 0 ≤ p) (h6 : p < vnp P) : vsum (fun h => bo (vrc P R p p h)) 8 0 - 1 = vsum (fun h => bo (h ≠ p ∧ vrc P R p p h)) (vnp P).toNat 0 := by
  have hP1 := hP.1
  have hP2 := hP.2.1
  have hP3 := hP.2.2.1
  have hP4 := hP.2.2.2.1
  have e1 := vsum_cut (f := fun h => bo (vrc P R p p h)) (8 - (vnp P).toNat) (vnp P).toNat 0 (fun j j1 j2 => bo_f (fun z => by have := vrc_rng hP hR h5 h6 j z; omega))
  rw [show (vnp P).toNat + (8 - (vnp P).toNat) = 8 by omega] at e1
  have e2 : vsum (fun h => bo (vrc P R p p h)) (vnp P).toNat 0 = vsum (fun h => bo (h ≠ p ∧ vrc P R p p h) + bo (h = p)) (vnp P).toNat 0 := by
    refine vsum_congr (vnp P).toNat 0 (fun j _ _ => ?_)
    show bo (vrc P R p p j) = bo (j ≠ p ∧ vrc P R p p j) + bo (j = p)
    by_cases e : j = p
    · rw [bo_t e, bo_f (fun z : j ≠ p ∧ vrc P R p p j => z.1 e), bo_t (show vrc P R p p j from vN_mo (m := 0) (n := 7) (by omega) e)]
      omega
    · rw [bo_f e, show bo (j ≠ p ∧ vrc P R p p j) = bo (vrc P R p p j) from bo_c ⟨fun z => z.2, fun z => ⟨e, z⟩⟩]
      omega
  rw [e1, e2, vsum_add, vsum_one (vnp P).toNat 0 h5 (by omega)]
  omega
theorem vpc_rng (hP : okP P) (p : Int) : 0 ≤ vpc P R p ∧ vpc P R p ≤ 8 := by
  have hP1 := hP.1
  have hP2 := hP.2.1
  have hP3 := hP.2.2.1
  have hP4 := hP.2.2.2.1
  unfold vpc
  have := vsum_rng (f := fun h => bo (h ≠ p ∧ vrc P R p p h)) (K := 1) (by omega) (vnp P).toNat 0 (fun j _ _ => bo_R _)
  by_cases h : vlv R p
  · rw [am_cif_t h]; omega
  · rw [am_cif_f h]; omega
theorem vpr_rng (hP : okP P) : 0 ≤ vpr P R ∧ vpr P R ≤ 64 := by
  have hP1 := hP.1
  have hP2 := hP.2.1
  have hP3 := hP.2.2.1
  have hP4 := hP.2.2.2.1
  have := vsum_rng (f := vpc P R) (K := 8) (by omega) (vnp P).toNat 0 (fun j _ _ => vpc_rng hP j)
  unfold vpr
  omega
theorem bs_cnt {a : Int} {Q : Int → Prop} (h : bs a Q) : am_call 178 [am_i a] S M = some (some (am_i (vsum (fun h => bo (Q h)) 8 0)), S, M) := by
  have e : vsum (fun q => am_and (am_shr a q) 1) 8 0 = vsum (fun h => bo (Q h)) 8 0 := vsum_congr 8 0 (fun j j1 j2 => bs_1 h j1 (by omega))
  rw [← e]
  obtain ⟨d, d1, rfl, _⟩ := h
  exact bt_cnt ⟨d, d1⟩
theorem k_pairs (hS : ly S) (hb : lf b) (hb2 : b + 3 < 145 ∨ 145 < b) (hP : okP P) (hR : okR P B R) (cp : cP P M) (cr : cR P R b M) : ∃ M1, am_call 62 [am_r 144, am_r b] S M = some (some (am_i (vpr P R)), S, M1) ∧ fr 145 145 M M1 := by
  obtain ⟨wa0, wa1, wa2⟩ := hS.2.2.2.2.2.2.1
  obtain ⟨li0, li1, li2, li3, li4, li5, li6, li7⟩ := hS.2.2.2.2.1 b hb
  obtain ⟨pl0, pl1, pl2, pl3, pl4, pl5, pl6, pl7, pl8⟩ := hS.2.1
  have hP1 := hP.1
  have hP2 := hP.2.1
  have hP3 := hP.2.2.1
  have hP4 := hP.2.2.2.1
  have loop : ∀ (n : Nat) (p s : Int) (M : am_M), 0 ≤ p → p + n = vnp P → cP P M → cR P R b M → ∃ M1, am_R 62 4 [some (am_r 144), some (am_r b), some (am_i s), some (am_i p)] [] S M = some (some (am_i (s + vsum (vpc P R) n p)), S, M1) ∧ fr 145 145 M M1 := by
    intro n
    induction n with
    | zero =>
      intro p s M p1 p2 cp cr
      have c1 := cp.1
      refine ⟨M, ?_, fr_rf⟩
      rw [b_Wa_pairs_4]
      simp (disch := omega) only [b_Wa_pairs_51, wa0, wa1, wa2, li0, li1, li2, li3, li4, li5, li6, li7, pl0, pl1, pl2, pl3, pl4, pl5, pl6, pl7, pl8, c1, vsum, Int.add_zero, am_ck_T, am_ck_t, am_cif_t, am_cif_f, am_cif_T, am_cif_F, am_then_s, am_push_s, am_push_n, true_and, and_true, true_or, or_true, Int.cast_ofNat_Int, am_02, am_22, not_true_eq_false, not_false_eq_true]
    | succ n ih =>
      intro p s M p1 p2 cp cr
      have c1 := cp.1
      have lv := k_lives hS hb cr p
      have uf : vsum (vpc P R) (n + 1) p = vpc P R p + vsum (vpc P R) n (p + 1) := rfl
      by_cases h : vlv R p
      · rw [bo_t h] at lv
        obtain ⟨M0, d1, d2, d3⟩ := k_lay (w := -1) hS hb hb2 hP hR cp cr p1 (show p < vnp P by omega) ⟨by omega, by omega⟩
        obtain ⟨a, e1, e2⟩ := k_closure hS d2 (vE_8 hP hR) (bs_one p1 (show p < 8 by omega))
        have e3 := bs_cnt (S := S) (M := M0) e2
        have e4 : vsum (fun h => bo (vN (vE P R p (-1)) (fun k => k = p) 7 h)) 8 0 - 1 = vpc P R p := by
          unfold vpc
          rw [am_cif_t h]
          exact vpc_cnt hP hR p1 (show p < vnp P by omega)
        obtain ⟨M1, f1, f2⟩ := ih (p + 1) (s + vpc P R p) M0 (by omega) (by omega) (cP_fr d3 (by omega) cp) (cR_fr (fun c c1 c2 => d3 c (by omega)) cr)
        refine ⟨M1, ?_, fr_tr d3 f2⟩
        rw [b_Wa_pairs_4, uf, ← Int.add_assoc, ← f1, ← e4]
        simp (disch := omega) only [b_Wa_pairs_15, b_Wa_pairs_20, b_Wa_pairs_23, b_Wa_pairs_30, b_Wa_pairs_38, b_Wa_pairs_41, b_Wa_pairs_45, wa0, wa1, wa2, li0, li1, li2, li3, li4, li5, li6, li7, pl0, pl1, pl2, pl3, pl4, pl5, pl6, pl7, pl8, c1, lv, d1, e1, e3, am_ck_T, am_ck_t, am_cif_t, am_cif_f, am_cif_T, am_cif_F, am_then_s, am_push_s, am_push_n, true_and, and_true, true_or, or_true, Int.cast_ofNat_Int, am_02, am_22, not_true_eq_false, not_false_eq_true]
      · rw [bo_f h] at lv
        have e4 : vpc P R p = 0 := by unfold vpc; rw [am_cif_f h]
        obtain ⟨M1, f1, f2⟩ := ih (p + 1) s M (by omega) (by omega) cp cr
        refine ⟨M1, ?_, f2⟩
        rw [b_Wa_pairs_4, uf, e4, Int.zero_add, ← f1]
        simp (disch := omega) only [b_Wa_pairs_15, b_Wa_pairs_20, b_Wa_pairs_45, wa0, wa1, wa2, li0, li1, li2, li3, li4, li5, li6, li7, pl0, pl1, pl2, pl3, pl4, pl5, pl6, pl7, pl8, c1, lv, am_ck_T, am_ck_t, am_cif_t, am_cif_f, am_cif_T, am_cif_F, am_then_s, am_push_s, am_push_n, true_and, and_true, true_or, or_true, Int.cast_ofNat_Int, am_02, am_22, not_true_eq_false, not_false_eq_true]
  obtain ⟨M1, d1, d2⟩ := loop (vnp P).toNat 0 0 M (by omega) (by omega) cp cr
  rw [Int.zero_add] at d1
  refine ⟨M1, ?_, d2⟩
  rw [c_Wa_pairs, b_Wa_pairs_0]
  exact d1
theorem m_pairs (hS : ly S) (hP : okP P) (hR : okR P B R) (mp : mP P M) (mr : mR P R x M) (hx : 0 ≤ x ∧ x ≤ 2706) : ∃ M1, am_call 161 [am_r 164, am_i x] S M = some (some (am_i (vpr P R)), S, M1) ∧ fr 172 172 M M1 := by
  obtain ⟨mo0, ⟨mr0, mr1, mr2, mr3, mr4, mr5, mr6, mr7, mr8, mr9, mr10, mr11⟩, mk0, mk1, mk2, mk3, mk4, mk5, mk6, mk7, mk8, mk9, mk10, mk11⟩ := hS.2.2.2.2.2.2.2.2.2.2
  have hP1 := hP.1
  have hP2 := hP.2.1
  have hP3 := hP.2.2.1
  have hP4 := hP.2.2.2.1
  have inner : ∀ (p a : Int) (Q : Int → Prop) (M : am_M), 0 ≤ p → p < vnp P → mP P M → bs a Q → ∀ (n : Nat) (q s : Int), 0 ≤ q → q + n = vnp P → am_R 161 37 [some (am_r 164), some (am_i x), some (am_i s), some (am_i p), some (am_i a), some (am_i q)] [] S M = am_R 161 79 [some (am_r 164), some (am_i x), some (am_i (s + vsum (fun h => bo (h ≠ p ∧ Q h)) n q)), some (am_i p), some (am_i a), some (am_i (vnp P))] [] S M := by
    intro p a Q M p1 p2 mp ha n
    have c1 := mp.1
    have o1 := m_one (S := S) (M := M) (v := 1) (Or.inr rfl)
    have o0 := m_one (S := S) (M := M) (v := 0) (Or.inl rfl)
    induction n with
    | zero =>
      intro q s q1 q2
      obtain rfl : q = vnp P := by omega
      rw [b_Mo_pairsIn_37]
      simp (disch := omega) only [mo0, mr0, mr1, mr2, mr3, mr4, mr5, mr6, mr7, mr8, mr9, mr10, mr11, mk0, mk1, mk2, mk3, mk4, mk5, mk6, mk7, mk8, mk9, mk10, mk11, c1, vsum, Int.add_zero, am_ck_T, am_ck_t, am_cif_t, am_cif_f, am_cif_T, am_cif_F, am_then_s, am_push_s, am_push_n, true_and, and_true, true_or, or_true, Int.cast_ofNat_Int, am_02, am_22, not_true_eq_false, not_false_eq_true]
    | succ n ih =>
      intro q s q1 q2
      have e1 := m_has (S := S) (M := M) a q
      have e2 := bs_1 ha q1 (show q < 8 by omega)
      rw [e2] at e1
      have ih1 := ih (q + 1) (s + bo (q ≠ p ∧ Q q)) (by omega) (by omega)
      have uf : vsum (fun h => bo (h ≠ p ∧ Q h)) (n + 1) q = bo (q ≠ p ∧ Q q) + vsum (fun h => bo (h ≠ p ∧ Q h)) n (q + 1) := rfl
      rw [uf, ← Int.add_assoc, ← ih1, b_Mo_pairsIn_37]
      by_cases hp : q = p
      · rw [bo_f (fun z : q ≠ p ∧ Q q => z.1 hp)]
        simp (disch := omega) only [b_Mo_pairsIn_46, b_Mo_pairsIn_67, b_Mo_pairsIn_68, b_Mo_pairsIn_71, mo0, mr0, mr1, mr2, mr3, mr4, mr5, mr6, mr7, mr8, mr9, mr10, mr11, mk0, mk1, mk2, mk3, mk4, mk5, mk6, mk7, mk8, mk9, mk10, mk11, c1, o0, am_ck_T, am_ck_t, am_cif_t, am_cif_f, am_cif_T, am_cif_F, am_then_s, am_push_s, am_push_n, true_and, and_true, true_or, or_true, Int.cast_ofNat_Int, am_02, am_22, not_true_eq_false, not_false_eq_true]
      · by_cases hq : Q q
        · rw [bo_t hq, bo_t (rfl : (1 : Int) = 1)] at e1
          rw [bo_t (show q ≠ p ∧ Q q from ⟨hp, hq⟩)]
          simp (disch := omega) only [b_Mo_pairsIn_46, b_Mo_pairsIn_53, b_Mo_pairsIn_60, b_Mo_pairsIn_63, b_Mo_pairsIn_68, b_Mo_pairsIn_71, mo0, mr0, mr1, mr2, mr3, mr4, mr5, mr6, mr7, mr8, mr9, mr10, mr11, mk0, mk1, mk2, mk3, mk4, mk5, mk6, mk7, mk8, mk9, mk10, mk11, c1, e1, o1, am_ck_T, am_ck_t, am_cif_t, am_cif_f, am_cif_T, am_cif_F, am_then_s, am_push_s, am_push_n, true_and, and_true, true_or, or_true, Int.cast_ofNat_Int, am_02, am_22, not_true_eq_false, not_false_eq_true]
        · rw [bo_f hq, bo_f (show ¬ (0 : Int) = 1 by omega)] at e1
          rw [bo_f (fun z : q ≠ p ∧ Q q => hq z.2)]
          simp (disch := omega) only [b_Mo_pairsIn_46, b_Mo_pairsIn_53, b_Mo_pairsIn_60, b_Mo_pairsIn_67, b_Mo_pairsIn_68, b_Mo_pairsIn_71, mo0, mr0, mr1, mr2, mr3, mr4, mr5, mr6, mr7, mr8, mr9, mr10, mr11, mk0, mk1, mk2, mk3, mk4, mk5, mk6, mk7, mk8, mk9, mk10, mk11, c1, e1, o0, am_ck_T, am_ck_t, am_cif_t, am_cif_f, am_cif_T, am_cif_F, am_then_s, am_push_s, am_push_n, true_and, and_true, true_or, or_true, Int.cast_ofNat_Int, am_02, am_22, not_true_eq_false, not_false_eq_true]
  have loop : ∀ (n : Nat) (p s : Int) (M : am_M) (o4 o5 : Option am_V), 0 ≤ p → p + n = vnp P → mP P M → mR P R x M → ∃ M1, am_R 161 4 [some (am_r 164), some (am_i x), some (am_i s), some (am_i p), o4, o5] [] S M = some (some (am_i (s + vsum (vpc P R) n p)), S, M1) ∧ fr 172 172 M M1 := by
    intro n
    induction n with
    | zero =>
      intro p s M o4 o5 p1 p2 mp mr
      have c1 := mp.1
      refine ⟨M, ?_, fr_rf⟩
      rw [b_Mo_pairsIn_4]
      simp (disch := omega) only [b_Mo_pairsIn_85, mo0, mr0, mr1, mr2, mr3, mr4, mr5, mr6, mr7, mr8, mr9, mr10, mr11, mk0, mk1, mk2, mk3, mk4, mk5, mk6, mk7, mk8, mk9, mk10, mk11, c1, vsum, Int.add_zero, am_ck_T, am_ck_t, am_cif_t, am_cif_f, am_cif_T, am_cif_F, am_then_s, am_push_s, am_push_n, true_and, and_true, true_or, or_true, Int.cast_ofNat_Int, am_02, am_22, not_true_eq_false, not_false_eq_true]
    | succ n ih =>
      intro p s M o4 o5 p1 p2 mp mr
      have c1 := mp.1
      have lv := m_isDead hS mr hx p
      have uf : vsum (vpc P R) (n + 1) p = vpc P R p + vsum (vpc P R) n (p + 1) := rfl
      by_cases h : vlv R p
      · rw [bo_f (not_not_intro h)] at lv
        obtain ⟨a, ha⟩ := bs_ex (vrc P R p p)
        obtain ⟨M0, d1, d3⟩ := m_reachedIn hS hP hR mp mr hx p1 (show p < vnp P by omega) p1 (show p < vnp P by omega) ha
        have mp0 : mP P M0 := mP_fr (fun c hc j => d3 c (by omega) j) mp
        have e1 := inner p a _ M0 p1 (by omega) mp0 ha (vnp P).toNat 0 s (by omega) (by omega)
        have e4 : vsum (fun h => bo (h ≠ p ∧ vrc P R p p h)) (vnp P).toNat 0 = vpc P R p := by unfold vpc; rw [am_cif_t h]
        rw [e4] at e1
        obtain ⟨M1, f1, f2⟩ := ih (p + 1) (s + vpc P R p) M0 (some (am_i a)) (some (am_i (vnp P))) (by omega) (by omega) mp0 (mR_fr hP (fun j _ _ => d3 165 (by omega) j) mr)
        refine ⟨M1, ?_, fr_tr d3 f2⟩
        rw [b_Mo_pairsIn_4, uf, ← Int.add_assoc, ← f1]
        simp (disch := omega) only [b_Mo_pairsIn_12, b_Mo_pairsIn_18, b_Mo_pairsIn_25, b_Mo_pairsIn_32, b_Mo_pairsIn_79, mo0, mr0, mr1, mr2, mr3, mr4, mr5, mr6, mr7, mr8, mr9, mr10, mr11, mk0, mk1, mk2, mk3, mk4, mk5, mk6, mk7, mk8, mk9, mk10, mk11, c1, lv, d1, e1, am_ck_T, am_ck_t, am_cif_t, am_cif_f, am_cif_T, am_cif_F, am_then_s, am_push_s, am_push_n, true_and, and_true, true_or, or_true, Int.cast_ofNat_Int, am_02, am_22, not_true_eq_false, not_false_eq_true]
      · rw [bo_t h] at lv
        have e1 := inner p 0 _ M p1 (by omega) mp bs_0 (vnp P).toNat 0 s (by omega) (by omega)
        have e4 : vpc P R p = 0 := by unfold vpc; rw [am_cif_f h]
        have e5 : vsum (fun h => bo (h ≠ p ∧ False)) (vnp P).toNat 0 = 0 := by
          have z := vsum_congr (f := fun h => bo (h ≠ p ∧ False)) (g := fun _ => 0) (vnp P).toNat 0 (fun j _ _ => bo_f (fun z => z.2))
          have z2 := vsum_rng (f := fun _ : Int => 0) (K := 0) (by omega) (vnp P).toNat 0 (fun j _ _ => ⟨Int.le_refl _, Int.le_refl _⟩)
          rw [z]; omega
        rw [e5, Int.add_zero] at e1
        obtain ⟨M1, f1, f2⟩ := ih (p + 1) s M (some (am_i 0)) (some (am_i (vnp P))) (by omega) (by omega) mp mr
        refine ⟨M1, ?_, f2⟩
        rw [b_Mo_pairsIn_4, uf, e4, Int.zero_add, ← f1]
        simp (disch := omega) only [b_Mo_pairsIn_12, b_Mo_pairsIn_18, b_Mo_pairsIn_21, b_Mo_pairsIn_32, b_Mo_pairsIn_79, mo0, mr0, mr1, mr2, mr3, mr4, mr5, mr6, mr7, mr8, mr9, mr10, mr11, mk0, mk1, mk2, mk3, mk4, mk5, mk6, mk7, mk8, mk9, mk10, mk11, c1, lv, e1, am_ck_T, am_ck_t, am_cif_t, am_cif_f, am_cif_T, am_cif_F, am_then_s, am_push_s, am_push_n, true_and, and_true, true_or, or_true, Int.cast_ofNat_Int, am_02, am_22, not_true_eq_false, not_false_eq_true]
  obtain ⟨M1, d1, d2⟩ := loop (vnp P).toNat 0 0 M none none (by omega) (by omega) mp mr
  rw [Int.zero_add] at d1
  refine ⟨M1, ?_, d2⟩
  rw [c_Mo_pairsIn, b_Mo_pairsIn_0]
  exact d1
end PAIRS
